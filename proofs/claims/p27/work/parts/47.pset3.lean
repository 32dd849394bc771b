/-! setConflict. -/
def oneP (s : Nat → Nat) (m o p : Nat) : Bool := (s p).testBit m && (s p).testBit o
section HO
variable {fu k : Nat} {s : Nat → Nat} {c f : Nat → Int} {cy : Int} {S : Mem}
theorem s_hop2 (hJ : SJ S k s c f cy) (ho : okJ s c f cy) {m o : Nat} (hm : m < 4) (hoo : o < 4) : ∀ d p n : Nat, p + d = mny s → d < n → f_X3_haveOnePhase_2 fu k (i32 (m : Int)) (i32 (o : Int)) S n (i32 (p : Int)) = some (bo (anyF (oneP s m o) d p)) := by
  intro d
  have hmn := mny_le s
  induction d with
  | zero =>
    intro p n hp hn
    obtain ⟨n, rfl⟩ : ∃ n', n = n' + 1 := ⟨n - 1, by omega⟩
    rw [f_X3_haveOnePhase_2, hJ.1, leT (by omega) (by omega) (by omega), nb_0]
    rfl
  | succ d ih =>
    intro p n hp hn
    obtain ⟨n, rfl⟩ : ∃ n', n = n' + 1 := ⟨n - 1, by omega⟩
    have ih' := ih (p + 1) n (by omega) (by omega)
    have e : anyF (oneP s m o) (d + 1) p = (((s p).testBit m && (s p).testBit o) || anyF (oneP s m o) d (p + 1)) := rfl
    have e3 : i32 (p : Int) + 1 = i32 ((p + 1 : Nat) : Int) := by rw [q_1, q_add]; rfl
    rw [e, f_X3_haveOnePhase_2, hJ.1, leF (by omega) (by omega) (by omega), s_read (by omega) (by omega) (by omega), b1s, show ((p : Int)).toNat = p by omega, hJ.2.2.1 p (by omega), s_hasBit (ho.1 p (by omega)) hm, b1s]
    unfold f_X3_haveOnePhase_40
    rw [e3]
    cases (s p).testBit m with
    | false => rw [boF rfl, Bool.false_and, Bool.false_or]; exact ih'
    | true =>
      rw [boT rfl, s_hasBit (ho.1 p (by omega)) hoo, b1s, Bool.true_and]
      cases (s p).testBit o with
      | false => rw [boF rfl, Bool.false_or]; exact ih'
      | true => rw [boT rfl, nb_1, Bool.true_or]; rfl
end HO
