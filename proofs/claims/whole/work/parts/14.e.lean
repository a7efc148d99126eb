/-! ===== what a write does to the chain of pages ===== -/
theorem vup_s {α : Type} {f : Nat → α} {k : Nat} {x : α} : va_up f k x k = x := if_pos rfl
theorem vup_n {α : Type} {f : Nat → α} {k j : Nat} {x : α} (h : j ≠ k) : va_up f k x j = f j := if_neg h
theorem vup_vup {α : Type} {f : Nat → α} {k : Nat} {x y : α} : va_up (va_up f k x) k y = va_up f k y := by
  funext j
  unfold va_up
  by_cases h : j = k
  · rw [if_pos h, if_pos h]
  · rw [if_neg h, if_neg h, if_neg h]
theorem vup_id {α : Type} {f : Nat → α} {k : Nat} : va_up f k (f k) = f := by
  funext j
  unfold va_up
  by_cases h : j = k
  · rw [if_pos h, h]
  · rw [if_neg h]
section PAGESW
variable {cI cJ : ClassId} {M : MP} {pa po okk pt : Nat → Nat} {K : Nat → Nat → BitVec 64} {pp : Nat → Nat → Int32} {w bk : Nat → BitVec 64} {wa : Nat → Bool} {ca qu ve : Nat → Nat} {N : Nat}
/-- a write elsewhere -/
theorem Pages.w0 (h : Pages cI cJ M pa po okk pt K pp w bk wa ca qu ve N) {a : Nat} {x : va_E} (h1 : ∀ i, i < N → pa i ≠ a ∧ po i ≠ a ∧ okk i ≠ a ∧ pt i ≠ a) : Pages cI cJ (mu M a x) pa po okk pt K pp w bk wa ca qu ve N :=
  ⟨fun i hi => mu_g (h1 i hi).1 (h.1 i hi), fun i hi => ⟨mu_g (h1 i hi).2.1 (h.2.1 i hi).1, mu_g (h1 i hi).2.2.1 (h.2.1 i hi).2.1, mu_g (h1 i hi).2.2.2 (h.2.1 i hi).2.2⟩, h.2.2⟩
theorem Pages.w1 (h : Pages cI cJ M pa po okk pt K pp w bk wa ca qu ve N) {k : Nat} (hk : k < N) {w1 b1 : BitVec 64} {a1 : Bool} : Pages cI cJ (mu M (po k) (.inr (1, [.ref (okk k), .ref (pt k), .long (bL w1), .long (bL b1), .int (bI a1)]))) pa po okk pt K pp (va_up w k w1) (va_up bk k b1) (va_up wa k a1) ca qu ve N := by
  refine ⟨fun i hi => mu_g (ne_oo (h.1 i hi) (h.2.1 k hk).1 (by decide)) (h.1 i hi), fun i hi => ⟨?_, mu_g (Ne.symm (ne_oi (h.2.1 k hk).1 (h.2.1 i hi).2.1)) (h.2.1 i hi).2.1, mu_g (Ne.symm (ne_oi (h.2.1 k hk).1 (h.2.1 i hi).2.2)) (h.2.1 i hi).2.2⟩, h.2.2⟩
  by_cases hik : i = k
  · subst hik; rw [vup_s, vup_s, vup_s]; exact mu_s
  · rw [vup_n hik, vup_n hik, vup_n hik]; exact mu_g (h.2.2 i k hi hk hik).2.1 (h.2.1 i hi).1
theorem Pages.w2 (h : Pages cI cJ M pa po okk pt K pp w bk wa ca qu ve N) {k : Nat} (hk : k < N) {K1 : Nat → BitVec 64} : Pages cI cJ (mu M (okk k) (eJ cJ 7 (fun ζ => bL (K1 ζ)))) pa po okk pt (va_up K k K1) pp w bk wa ca qu ve N := by
  refine ⟨fun i hi => mu_g (ne_oi (h.1 i hi) (h.2.1 k hk).2.1) (h.1 i hi), fun i hi => ⟨mu_g (ne_oi (h.2.1 i hi).1 (h.2.1 k hk).2.1) (h.2.1 i hi).1, ?_, mu_g (ne_ij (h.2.1 i hi).2.2 (h.2.1 k hk).2.1) (h.2.1 i hi).2.2⟩, h.2.2⟩
  by_cases hik : i = k
  · subst hik; rw [vup_s]; exact mu_s
  · rw [vup_n hik]; exact mu_g (h.2.2 i k hi hk hik).2.2.1 (h.2.1 i hi).2.1
theorem Pages.w3 (h : Pages cI cJ M pa po okk pt K pp w bk wa ca qu ve N) {k : Nat} (hk : k < N) {p1 : Nat → Int32} : Pages cI cJ (mu M (pt k) (eI cI 64 p1)) pa po okk pt K (va_up pp k p1) w bk wa ca qu ve N := by
  refine ⟨fun i hi => mu_g (ne_oi (h.1 i hi) (h.2.1 k hk).2.2) (h.1 i hi), fun i hi => ⟨mu_g (ne_oi (h.2.1 i hi).1 (h.2.1 k hk).2.2) (h.2.1 i hi).1, mu_g (ne_ji (h.2.1 i hi).2.1 (h.2.1 k hk).2.2) (h.2.1 i hi).2.1, ?_⟩, h.2.2⟩
  by_cases hik : i = k
  · subst hik; rw [vup_s]; exact mu_s
  · rw [vup_n hik]; exact mu_g (h.2.2 i k hi hk hik).2.2.2 (h.2.1 i hi).2.2
theorem Pages.w4 (h : Pages cI cJ M pa po okk pt K pp w bk wa ca qu ve N) {k : Nat} (hk : k < N) {c1 q1 v1 : Nat} : Pages cI cJ (mu M (pa k) (.inr (0, [.ref (po k), pgV pa k, .int (nI k), afV pa N k, .int (nI c1), .int (nI q1), .int (nI v1)]))) pa po okk pt K pp w bk wa (va_up ca k c1) (va_up qu k q1) (va_up ve k v1) N := by
  refine ⟨fun i hi => ?_, fun i hi => ⟨mu_g (ne_oo (h.2.1 i hi).1 (h.1 k hk) (by decide)) (h.2.1 i hi).1, mu_g (Ne.symm (ne_oi (h.1 k hk) (h.2.1 i hi).2.1)) (h.2.1 i hi).2.1, mu_g (Ne.symm (ne_oi (h.1 k hk) (h.2.1 i hi).2.2)) (h.2.1 i hi).2.2⟩, h.2.2⟩
  by_cases hik : i = k
  · subst hik; unfold PgAt; rw [vup_s, vup_s, vup_s]; exact mu_s
  · unfold PgAt; rw [vup_n hik, vup_n hik, vup_n hik]; exact mu_g (h.2.2 i k hi hk hik).1 (h.1 i hi)
/-- what keeps all that the pages are kept of -/
theorem Pages.keep {M1 : MP} {P : Nat → Prop} (h : Pages cI cJ M pa po okk pt K pp w bk wa ca qu ve N) (hk : Keep M M1 P) (hp : ∀ i, i < N → ¬ P (pa i) ∧ ¬ P (po i) ∧ ¬ P (okk i) ∧ ¬ P (pt i)) : Pages cI cJ M1 pa po okk pt K pp w bk wa ca qu ve N :=
  ⟨fun i hi => hk _ _ (h.1 i hi) (hp i hi).1, fun i hi => ⟨hk _ _ (h.2.1 i hi).1 (hp i hi).2.1, hk _ _ (h.2.1 i hi).2.1 (hp i hi).2.2.1, hk _ _ (h.2.1 i hi).2.2 (hp i hi).2.2.2⟩, h.2.2⟩
end PAGESW
