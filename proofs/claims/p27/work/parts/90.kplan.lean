/-! The law's plans: seconds of green counted. -/
theorem cntF_full {f : Nat → Bool} : ∀ d i, (∀ j, i ≤ j → j < i + d → f j = true) → cntF f d i = d
  | 0, _, _ => rfl
  | d + 1, i, h => by
    have e : cntF f (d + 1) i = (if f i = true then 1 else 0) + cntF f d (i + 1) := rfl
    rw [e, if_pos (h i (Nat.le_refl _) (by omega)), cntF_full d (i + 1) (fun j h1 h2 => h j (by omega) (by omega))]
    omega
/-- over a whole turn it doesn't matter where one begins -/
theorem cntF_turn {f : Nat → Bool} {n : Nat} (hn : 1 ≤ n) (hf : ∀ j, f (j + n) = f j) : ∀ i, cntF f n i = cntF f n 0
  | 0 => rfl
  | i + 1 => by
    obtain ⟨m, rfl⟩ : ∃ m, n = m + 1 := ⟨n - 1, by omega⟩
    have e1 : cntF f (m + 1) i = (if f i = true then 1 else 0) + cntF f m (i + 1) := rfl
    have e2 : cntF f (m + 1) (i + 1) = cntF f m (i + 1) + cntF f 1 (i + 1 + m) := cntF_app f m 1 (i + 1)
    have e3 : cntF f 1 (i + 1 + m) = (if f (i + 1 + m) = true then 1 else 0) + 0 := rfl
    have e4 : f (i + 1 + m) = f i := by rw [show i + 1 + m = i + (m + 1) by omega]; exact hf i
    rw [e2, e3, e4, ← cntF_turn (by omega) hf i, e1]
    omega
theorem bits_tab : ∀ L : Fin 16, (0 < cntF (fun m => L.val.testBit m) 4 0) ↔ L.val ≠ 0 := by decide +kernel
theorem bits_pos {L : Nat} (h : L < 16) : 0 < cntF (fun m => L.testBit m) 4 0 ↔ L ≠ 0 := bits_tab ⟨L, h⟩
section CT
variable {s : Nat → Nat} {c f : Nat → Int} {cy : Int}
def litQ (s : Nat → Nat) (c f : Nat → Int) (cy : Int) (u : Nat) : Bool := decide (lit s c f cy (u : Int) ≠ 0)
theorem nz_set (hz : s 0 ≠ 0) {p : Nat} (hp : p < mny s) : s p ≠ 0 := by
  have hm := mny_le s
  match p, hp with
  | 0, _ => exact hz
  | 1, hp => intro z; unfold mny at hp; rw [if_pos z] at hp; omega
  | 2, hp => intro z; unfold mny at hp; rw [if_pos z] at hp; split at hp <;> omega
  | 3, hp =>
    intro z
    unfold mny at hp
    rw [if_pos z] at hp
    split at hp
    · omega
    · split at hp <;> omega
  | p + 4, hp => omega
theorem lit_cnt (h0 : 0 ≤ lef s c cy) (hz : s 0 ≠ 0) : ∀ p, p ≤ mny s → cntF (litQ s c f cy) (sms (gcs (grn s c f cy) (clr s c)) p).toNat 0 = sms (grn s c f cy) p
  | 0, _ => rfl
  | p + 1, hp => by
    have ih := lit_cnt h0 hz p (by omega)
    have hb := gsum_b (f := f) h0 p (by omega)
    have hg := grn_nn (f := f) h0 p
    have hc := clr_nn s c p
    have e : (sms (gcs (grn s c f cy) (clr s c)) (p + 1)).toNat = (sms (gcs (grn s c f cy) (clr s c)) p).toNat + ((grn s c f cy p).toNat + (clr s c p).toNat) := by
      show (sms (gcs (grn s c f cy) (clr s c)) p + (grn s c f cy p + clr s c p)).toNat = _
      omega
    rw [e, cntF_app, cntF_app, ih, Nat.zero_add, cntF_full (grn s c f cy p).toNat _ (fun j h1 h2 => by
      unfold litQ
      rw [lit_in h0 (p := p) (by omega) (by omega) (by omega)]
      exact decide_eq_true (nz_set hz (by omega))), cntF_zero (clr s c p).toNat _ (fun j h1 h2 => by
      unfold litQ
      rw [lit_out h0 (p := p) (by omega) (by omega) (by
        show (j : Int) < sms (gcs (grn s c f cy) (clr s c)) p + (grn s c f cy p + clr s c p)
        omega)]
      exact decide_eq_false (fun z => z rfl))]
    show sms (grn s c f cy) p + (((grn s c f cy p).toNat : Int) + 0) = sms (grn s c f cy) p + grn s c f cy p
    omega
/-- the seconds of a cycle in which some movement is green, from any second on: the cycle less its clearings -/
theorem turn_cnt (ho : okJ s c f cy) (h0 : 0 ≤ lef s c cy) (hz : s 0 ≠ 0) (a : Int) : cntF (fun t => decide (lit s c f cy (((t : Int) + a) % cy) ≠ 0)) cy.toNat 0 = cy - sms (clr s c) (mny s) := by
  have hcy := ho.2.2.2
  have e0 : ((a % cy).toNat : Int) = a % cy := by
    have := Int.emod_nonneg a (show cy ≠ 0 by omega)
    omega
  have e1 : cntF (fun t => decide (lit s c f cy (((t : Int) + a) % cy) ≠ 0)) cy.toNat 0 = cntF (fun t => decide (lit s c f cy ((t : Int) % cy) ≠ 0)) cy.toNat (a % cy).toNat := by
    have := cntF_sh (f := fun t => decide (lit s c f cy ((t : Int) % cy) ≠ 0)) (g := fun t => decide (lit s c f cy (((t : Int) + a) % cy) ≠ 0)) (a % cy).toNat cy.toNat 0 (fun j _ _ => by
      have e2 : (((a % cy).toNat + j : Nat) : Int) % cy = ((j : Int) + a) % cy := by
        rw [Int.natCast_add, e0, Int.emod_add_emod, Int.add_comm]
      show decide (lit s c f cy ((((a % cy).toNat + j : Nat) : Int) % cy) ≠ 0) = _
      rw [e2])
    rw [Nat.add_zero] at this
    exact this.symm
  rw [e1, cntF_turn (by omega) (fun j => by
    have e3 : ((j + cy.toNat : Nat) : Int) % cy = (j : Int) % cy := by
      rw [Int.natCast_add, show ((cy.toNat : Nat) : Int) = cy by omega, Int.add_emod_right]
    show decide (lit s c f cy (((j + cy.toNat : Nat) : Int) % cy) ≠ 0) = _
    rw [e3])]
  have e4 : cntF (fun t => decide (lit s c f cy ((t : Int) % cy) ≠ 0)) cy.toNat 0 = cntF (litQ s c f cy) cy.toNat 0 := cntF_congr _ 0 (fun j h1 h2 => by
    unfold litQ
    rw [Int.emod_eq_of_lt (by omega) (by omega)])
  have e5 : sms (gcs (grn s c f cy) (clr s c)) (mny s) = cy := plan_sum h0
  have e6 := lit_cnt (f := f) h0 hz (mny s) (Nat.le_refl _)
  have e7 : sms (gcs (grn s c f cy) (clr s c)) (mny s) = sms (grn s c f cy) (mny s) + sms (clr s c) (mny s) := sms_add (grn s c f cy) (clr s c) (mny s)
  rw [e5] at e6 e7
  rw [e4, e6]
  omega
end CT
