/-! ===== the reference's constructor ===== -/
theorem Keep.dn_new {M M' : MP} {P : Nat → Prop} {a : Nat} {x : va_E} (h : Keep (mu M a x) M' P) (ha : M a = none) : Keep M M' P := fun b e hb hn => h b e ((mu_n (ne_none hb ha)).trans hb) hn
theorem Keep.dn_own {M M' : MP} {P : Nat → Prop} {a : Nat} {x : va_E} (h : Keep (mu M a x) M' P) (ha : P a) : Keep M M' P := fun b e hb hn => h b e ((mu_n (fun z => hn (by rw [z]; exact ha))).trans hb) hn
theorem Keep.weak {M M' : MP} {P Q : Nat → Prop} (h : Keep M M' P) (hpq : ∀ b e, M b = some e → P b → Q b) : Keep M M' Q := fun b e hb hn => h b e hb (fun z => hn (hpq b e hb z))
def mOrd : Nat → Int32 := upd (upd (upd (upd (upd (upd (upd (upd (fun _ => 0) 0 (nI 3)) 1 (nI 5)) 2 (nI 4)) 3 (nI 2)) 4 (nI 1)) 5 (nI 4)) 6 (nI 5)) 7 (nI 3)
def mIniL (f : Nat → Int32) : Nat → Nat → Int32
  | 0 => f
  | i + 1 => upd (upd (upd (upd (mIniL f i) i (nI 8 + mOrd i)) (8 + i) (nI 14)) (48 + i) (nI 6)) (56 + i) (mOrd i)
def mIni : Nat → Int32 := upd (mTie (mTie (mIniL (mClr (fun _ => 0) 146) 8) 1 6) 57 62) 128 (nI 8)
theorem mIni_p : ∀ j, j < 64 → mIni j = nI (pcN mIni j) ∧ pcN mIni j < 15 := by decide +kernel
theorem mIni_b : (List.range 64).all (fun j => decide (mIni (64 + j) = -1) || (List.range 64).any (fun o => decide (mIni (64 + j) = nI o))) = true := by decide +kernel
theorem mIni_s : mIni 128 = nI (mSide mIni) := by decide +kernel
theorem WfR_ini : WfR mIni := ⟨mIni_p, fun j hj => by
  have h := List.all_eq_true.mp mIni_b j (List.mem_range.mpr hj)
  rw [Bool.or_eq_true, decide_eq_true_eq, List.any_eq_true] at h
  rcases h with h | ⟨o, ho, h⟩
  · exact Or.inl h
  · exact Or.inr ⟨o, List.mem_range.mp ho, of_decide_eq_true h⟩, mIni_s⟩
def MoMade (cI : ClassId) (M M' : MP) (A : Nat → Prop) (mo : Nat) : Prop :=
  ∃ (ro no fi se t3 le od : Nat) (rw g1 g2 g3 lf : Nat → Int32), MoAt cI M' mo ro no fi se t3 le od 0 0 (mOutc mIni mIni 0) false 2336 rw mIni g1 g2 g3 lf ∧ WfL lf ∧ (∀ k, k < 146 → rw k = mIni k) ∧ Keep M M' (fun b => b = mo) ∧ (M ro = none ∧ A ro) ∧ (M no = none ∧ A no) ∧ (M fi = none ∧ A fi) ∧ (M se = none ∧ A se) ∧ (M t3 = none ∧ A t3) ∧ M le = none
theorem MoMade.of {cI : ClassId} {M M' : MP} {A : Nat → Prop} {mo ro no fi se t3 le od : Nat} {rw g2 g3 lf : Nat → Int32} {Mb : MP} (h : MoKept cI Mb M' A mo ro no fi se t3 le od 0 0 false 2336 rw mIni g2 g3 lf) (hk : ∀ P : Nat → Prop, P mo → Keep Mb M' P → Keep M M' P) (hL : WfL lf) (h1 : M ro = none ∧ A ro) (h2 : M no = none ∧ A no) (h3 : M fi = none ∧ A fi) (h4 : M se = none ∧ A se) (h5 : M t3 = none ∧ A t3) (h6 : M le = none) : MoMade cI M M' A mo := by
  obtain ⟨ro', nr', rw', g1, h7, h8, h9, h10, h11, h12⟩ := h
  rcases h12 with ⟨rfl, rfl, _⟩ | ⟨_, _, _, h12⟩
  · refine ⟨ro', no, fi, se, t3, le, od, rw', g1, g2, g3, lf, ?_, hL, fun k hk2 => ?_, (hk _ (Or.inl rfl) h8).weak ?_, h1, h2, h3, h4, h5, h6⟩
    · rw [← out_0 h11]; exact h7
    · have h13 := h11 k hk2
      rw [show 146 * 0 + k = k by omega] at h13
      exact h13
    · intro b e hb hP
      rcases hP with h | h | h | h | h | h
      · exact h
      · rw [h, h1.1] at hb; cases hb
      · rw [h, h2.1] at hb; cases hb
      · rw [h, h3.1] at hb; cases hb
      · rw [h, h4.1] at hb; cases hb
      · rw [h, h5.1] at hb; cases hb
  · omega
