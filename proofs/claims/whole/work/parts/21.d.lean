/-! ===== PURE 6: bondings, dissolvings, set-up: what they do to a game ===== -/
theorem clampI {o : Nat} (h : o < 64) : (nI o).toNatClampNeg = o := nI_clamp (by omega)
theorem nI_i {a b : Nat} (ha : a < 64) (hb : b < 64) (h : nI a = nI b) : a = b := by
  have e := congrArg Int32.toNatClampNeg h
  rwa [clampI ha, clampI hb] at e
section CALM
variable {f : Nat → Int32} {K : Nat → BitVec 64} {pp : Nat → Int32} {w bk : BitVec 64} {wa : Bool} {a b : Nat}
theorem end_mid (g : Nat → Int32) {j : Nat} (hj : j < 64) : mEnd g (64 + j) = g (64 + j) := by unfold mEnd mFlip; rw [upd_n (by omega), upd_n (by omega)]
theorem bd_all (h : PosR f K pp w bk wa) (hk : Ki2 f) (ha : a < 64) (hb : b < 64) (hr : mBondR f a b = 0) : PosR (mEnd (mTie f a b)) K (kJoin pp a b) w bk (!wa) ∧ Ki2 (mEnd (mTie f a b)) ∧ kChk K w bk wa = false := by
  obtain ⟨hR, hu, hO, hN⟩ := h
  have hl : ∀ i, i < 64 → mEnd (mTie f a b) i = f i := fun i hi => calm_low (fun i hi => low_tie f a b hi) hi
  have hp : ∀ i, i < 64 → pcN (mEnd (mTie f a b)) i = pcN f i := fun i hi => pcN_cg (hl i hi)
  unfold mBondR at hr
  by_cases hab : a = b
  · rw [if_pos hab] at hr; cases hr
  rw [if_neg hab] at hr
  cases h1 : mIsOwn f a 5 (mSide f)
  · rw [h1, if_neg (by decide)] at hr; cases hr
  rw [h1, if_pos rfl] at hr
  cases h2 : mIsOwn f b 5 (mSide f)
  · rw [h2, if_neg (by decide)] at hr; cases hr
  rw [h2, if_pos rfl] at hr
  by_cases h3 : f (64 + a) = -1
  · rw [if_pos h3] at hr
    by_cases h4 : f (64 + b) = -1
    · rw [if_pos h4] at hr
      by_cases h5 : 3 < mHop a b
      · rw [if_pos h5] at hr; cases hr
      · rw [if_neg h5] at hr
        cases h6 : mInCheck f (mSide f)
        · have e1 : f a = nI (mSide f + 5) := by unfold mIsOwn at h1; exact of_decide_eq_true h1
          have e2 : f b = nI (mSide f + 5) := by unfold mIsOwn at h2; exact of_decide_eq_true h2
          have hpa : pcN f a = mSide f + 5 := by unfold pcN; rw [e1]; exact nI_clamp (by have := mSide_le f; omega)
          have hpb : pcN f b = mSide f + 5 := by unfold pcN; rw [e2]; exact nI_clamp (by have := mSide_le f; omega)
          have hs8 : (mSide f + 5) % 8 = 5 := by unfold mSide; split <;> rfl
          have hm : ∀ j, j < 64 → mEnd (mTie f a b) (64 + j) = if j = b then nI a else if j = a then nI b else f (64 + j) := fun j hj => by
            rw [end_mid _ hj]
            unfold mTie
            by_cases j1 : j = b
            · rw [j1, if_pos rfl, upd_s]
            · rw [if_neg j1, upd_n (by omega)]
              by_cases j2 : j = a
              · rw [j2, if_pos rfl, upd_s]
              · rw [if_neg j2, upd_n (by omega)]
          refine ⟨⟨r_tie hR ha hb, ku_low hl hu, fun j hj => ?_, fun j hj hn => ?_⟩, ki2_low hl hk, ?_⟩
          · rw [hm j hj, hp j hj]
            by_cases j1 : j = b
            · right
              refine ⟨a, ha, by rw [if_pos j1], fun z => hab (z.trans j1), ?_, by rw [j1, hpb]; exact hs8, by rw [hp a ha, j1, hpa, hpb]⟩
              rw [hm a ha, if_neg hab, if_pos rfl, j1]
            · rw [if_neg j1]
              by_cases j2 : j = a
              · right
                refine ⟨b, hb, by rw [if_pos j2], fun z => hab (z.trans j2).symm, ?_, by rw [j2, hpa]; exact hs8, by rw [hp b hb, j2, hpa, hpb]⟩
                rw [hm b hb, if_pos rfl, j2]
              · rw [if_neg j2]
                rcases hO j hj with z | ⟨o, ho, z1, z2, z3, z4, z5⟩
                · exact Or.inl z
                · right
                  have oa : o ≠ a := fun z => by rw [z, h3] at z3; exact nI_m1 hj z3.symm
                  have ob : o ≠ b := fun z => by rw [z, h4] at z3; exact nI_m1 hj z3.symm
                  exact ⟨o, ho, z1, z2, by rw [hm o ho, if_neg ob, if_neg oa]; exact z3, z4, by rw [hp o ho]; exact z5⟩
          · rw [hm j hj] at hn ⊢
            by_cases j1 : j = b
            · rw [if_pos j1, clampI ha, j1, (hop_c hb ha).1]; omega
            · rw [if_neg j1] at hn ⊢
              by_cases j2 : j = a
              · rw [if_pos j2, clampI hb, j2]; omega
              · rw [if_neg j2] at hn ⊢
                exact hN j hj hn
          · rw [r_chk hR hu, ← r_mside hR]; exact h6
        · rw [h6, if_pos rfl] at hr; cases hr
    · rw [if_neg h4] at hr; cases hr
  · rw [if_neg h3] at hr; cases hr
theorem ds_all (h : PosR f K pp w bk wa) (hk : Ki2 f) (ha : a < 64) (hr : mDissR f a = 0) : PosR (mEnd (mUntie f a)) K (kPart pp a) w bk (!wa) ∧ Ki2 (mEnd (mUntie f a)) ∧ kChk K w bk wa = false := by
  obtain ⟨hR, hu, hO, hN⟩ := h
  have hl : ∀ i, i < 64 → mEnd (mUntie f a) i = f i := fun i hi => calm_low (fun i hi => low_untie f a hi) hi
  have hp : ∀ i, i < 64 → pcN (mEnd (mUntie f a)) i = pcN f i := fun i hi => pcN_cg (hl i hi)
  unfold mDissR at hr
  cases h1 : mIsOwn f a 5 (mSide f)
  · rw [h1, if_neg (by decide)] at hr; cases hr
  rw [h1, if_pos rfl] at hr
  by_cases h3 : f (64 + a) = -1
  · rw [if_pos h3] at hr; cases hr
  rw [if_neg h3] at hr
  cases h6 : mInCheck f (mSide f)
  · rcases hO a ha with z | ⟨o, ho, z1, z2, z3, -, -⟩
    · exact absurd z h3
    · have hm : ∀ j, j < 64 → mEnd (mUntie f a) (64 + j) = if j = a then -1 else if j = o then -1 else f (64 + j) := fun j hj => by
        rw [end_mid _ hj]
        unfold mUntie
        rw [if_neg h3, z1, clampI ho]
        by_cases j1 : j = a
        · rw [j1, if_pos rfl, upd_s]
        · rw [if_neg j1, upd_n (by omega)]
          by_cases j2 : j = o
          · rw [j2, if_pos rfl, upd_s]
          · rw [if_neg j2, upd_n (by omega)]
      refine ⟨⟨r_untie hR hO.wf ha, ku_low hl hu, fun j hj => ?_, fun j hj hn => ?_⟩, ki2_low hl hk, ?_⟩
      · rw [hm j hj, hp j hj]
        by_cases j1 : j = a
        · left; rw [if_pos j1]
        · by_cases j2 : j = o
          · left; rw [if_neg j1, if_pos j2]
          · rw [if_neg j1, if_neg j2]
            rcases hO j hj with y | ⟨q, hq, y1, y2, y3, y4, y5⟩
            · exact Or.inl y
            · right
              have qa : q ≠ a := fun y => by rw [y, z1] at y3; exact j2 (nI_i ho hj y3).symm
              have qo : q ≠ o := fun y => by rw [y, z3] at y3; exact j1 (nI_i ha hj y3).symm
              exact ⟨q, hq, y1, y2, by rw [hm q hq, if_neg qa, if_neg qo]; exact y3, y4, by rw [hp q hq]; exact y5⟩
      · rw [hm j hj] at hn ⊢
        by_cases j1 : j = a
        · rw [if_pos j1] at hn; exact absurd rfl hn
        · rw [if_neg j1] at hn ⊢
          by_cases j2 : j = o
          · rw [if_pos j2] at hn; exact absurd rfl hn
          · rw [if_neg j2] at hn ⊢
            exact hN j hj hn
      · rw [r_chk hR hu, ← r_mside hR]; exact h6
  · rw [h6, if_pos rfl] at hr; cases hr
end CALM
section SETUP
variable {cn N oc : Nat} {K : Nat → Nat → BitVec 64} {pp : Nat → Nat → Int32} {w bk : Nat → BitVec 64} {wa : Nat → Bool} {ca qu ve : Nat → Nat} {rw rw1 f : Nat → Int32} {su : Bool} {j k : Nat} {d : Bool}
theorem bo_none {g : Nat → Int32} (h : ∀ j, j < 64 → g (64 + j) = -1) : BondOk g ∧ BondNear g := ⟨fun j hj => Or.inl (h j hj), fun j hj hn => absurd (h j hj) hn⟩
theorem kCap_0 (h : ca 0 = 0) (k : Nat) (b : Bool) (k1 : 1 ≤ k) : kCap ca wa k b 0 = 0 := by
  unfold kCap kCntD
  rw [h, decide_eq_false (show ¬ 0 = k by omega)]
  rfl
theorem ps_init (h : ∀ k, k < 146 → rw k = mIni k) : PS false 0 1 (fun _ => iniK 8) (fun _ => iniP) (fun _ => iniW 8) (fun _ => iniB 8) (fun _ => true) (fun _ => 0) (fun _ => 0) (fun _ => 0) rw mIni 0 := by
  have hR : RowOk mIni (fun _ => iniK 8) (fun _ => iniP) (fun _ => iniW 8) (fun _ => iniB 8) (fun _ => true) (fun _ => 0) (fun _ => 0) 0 := by
    refine ⟨ini_pos, ⟨ini_129, Nat.le_refl _⟩, fun k b k1 k6 => ?_⟩
    rw [kCap_0 rfl k b k1, Nat.add_assoc]
    exact ini_cap _ (by cases b <;> simp [sdN] <;> omega)
  have hag : Agr mIni (rowN rw 0) := fun j hj => by unfold rowN; rw [Nat.mul_zero, Nat.zero_add]; exact (h j hj).symm
  refine ⟨⟨by decide, rfl, rfl, fun _ _ => show 0 < 8 from by decide⟩, hR, ⟨rfl, by decide⟩, (fun z => by cases z), fun _ => ⟨fun i hi => ?_, hag⟩⟩
  have e : i = 0 := by omega
  subst e
  refine ⟨hR.cg hag, ⟨ini_k2.cg hag, ini_ch⟩, ?_⟩
  rw [g_out (rw := rw) (f := mIni) (fun i hi => by have e : i = 0 := by omega
                                                   subst e; exact ini_rel.cg hag) hR ini_k2 (by decide)]
  exact (ini_out rw).symm
theorem ps_begin (h : PS su cn N K pp w bk wa ca qu ve rw f oc) : PS true 0 N (va_up K 0 kZ) (va_up pp 0 pNo) (va_up w 0 0#64) (va_up bk 0 0#64) (va_up wa 0 true) ca qu (va_up ve 0 0) rw (mBeg f) 0 := by
  obtain ⟨⟨g1, g2, g3, g4⟩, -, -, -, -⟩ := h
  have hb : ∀ j, j < 64 → mBeg f (64 + j) = -1 := fun j hj => by
    unfold mBeg mClr mClrV
    rw [upd_n (by omega), if_pos (by omega), if_neg (by omega), if_neg (by omega)]
  have hz : ∀ q, 128 < q → q < 146 → mBeg f q = nI 0 := fun q h1 h2 => by
    unfold mBeg mClr mClrV
    rw [upd_n (by omega), if_pos h2, if_neg (by omega), if_pos (by omega)]
  refine ⟨⟨by omega, g2, g3, g4⟩, ⟨⟨?_, ?_, (bo_none hb).1, (bo_none hb).2⟩, ⟨?_, by rw [g2]; exact Nat.le_refl _⟩, fun k b k1 k6 => ?_⟩, ⟨?_, ?_⟩, fun _ => ⟨rfl, rfl, hb⟩, fun z => by cases z⟩
  · rw [up_eq, up_eq, up_eq, up_eq, up_eq]; exact r_begin f
  · intro b i j hi hj h1 _
    unfold mIsOwn at h1
    rw [(pcN_beg (g := f) hi).1] at h1
    exact absurd (of_decide_eq_true h1) (by cases b <;> decide)
  · rw [g2]; exact hz 129 (by decide) (by decide)
  · rw [kCap_0 g3 k b k1]; exact hz _ (by omega) (sdk_lt k6)
  · rw [up_eq]
  · rw [up_eq]; decide
theorem ps_place (h : PS true cn N K pp w bk wa ca qu ve rw f oc) (hj : j < 64) (k1 : 1 ≤ k) (k6 : k ≤ 6) (h0 : f j = 0) (h1 : mSec f k d = false) : PS true cn N (va_up K cn (kPut (K cn) k j)) pp (va_up w cn (kPtW (w cn) j d)) (va_up bk cn (kPtW (bk cn) j (!d))) wa ca qu ve rw (mPlc f j k d) oc := by
  obtain ⟨g1, ⟨⟨hR, hu, hO, hN⟩, hq, hc⟩, g3, g4, -⟩ := h
  obtain ⟨rfl, e2, hb⟩ := g4 rfl
  have hv : ∀ i, ¬ i = j → mPlc f j k d i = f i := fun i hi => by unfold mPlc; exact upd_n hi
  have hb2 : ∀ i, i < 64 → mPlc f j k d (64 + i) = -1 := fun i hi => by rw [hv _ (by omega)]; exact hb i hi
  refine ⟨g1, ⟨⟨?_, ?_, (bo_none hb2).1, (bo_none hb2).2⟩, by rw [hv _ (by omega)]; exact hq, fun q b q1 q6 => by rw [hv _ (by omega)]; exact hc q b q1 q6⟩, g3, fun _ => ⟨rfl, e2, hb2⟩, fun z => by cases z⟩
  · rw [up_eq, up_eq, up_eq]; exact r_plc hR hj k1 k6 d h0
  · have hpj : mPlc f j k d j = nI (sdN d + k) := by unfold mPlc; exact upd_s
    have hno : ∀ b i, i < 64 → mIsOwn (mPlc f j k d) i 1 (sdN b) = true → (i = j ∧ k = 1 ∧ b = d) ∨ (¬ i = j ∧ mIsOwn f i 1 (sdN b) = true) := by
      intro b i hi h
      by_cases e : i = j
      · left
        unfold mIsOwn at h
        rw [e, hpj] at h
        have e3 : sdN d + k = sdN b + 1 := (nI_eq (by cases d <;> simp [sdN] <;> omega) (by cases b <;> decide)).mp (of_decide_eq_true h)
        refine ⟨e, ?_, ?_⟩
        · cases d <;> cases b <;> simp [sdN] at e3 <;> omega
        · cases d <;> cases b <;> simp [sdN] at e3 <;> first | rfl | omega
      · right
        unfold mIsOwn at h ⊢
        rw [hv i e] at h
        exact ⟨e, h⟩
    have hnok : k = 1 → ∀ i, i < 64 → mIsOwn f i 1 (sdN d) = true → False := fun hk i hi h => by
      unfold mSec at h1
      rw [decide_eq_true hk, king_of hi h] at h1
      cases h1
    intro b i i2 hi hi2 h h2
    rcases hno b i hi h with ⟨a1, a2, a3⟩ | ⟨a1, a2⟩
    · rcases hno b i2 hi2 h2 with ⟨c1, -, -⟩ | ⟨c1, c2⟩
      · rw [a1, c1]
      · rw [a3] at c2; exact (hnok a2 i2 hi2 c2).elim
    · rcases hno b i2 hi2 h2 with ⟨c1, c2, c3⟩ | ⟨c1, c2⟩
      · rw [c3] at a2; exact (hnok c2 i hi a2).elim
      · exact hu b i i2 hi hi2 a2 c2
theorem ps_remove (h : PS true cn N K pp w bk wa ca qu ve rw f oc) (hj : j < 64) : PS true cn N (va_up K cn (kLift (K cn) j)) pp (va_up w cn (w cn &&& kNot (kB j))) (va_up bk cn (bk cn &&& kNot (kB j))) wa ca qu ve rw (upd f j (nI 0)) oc := by
  obtain ⟨g1, ⟨⟨hR, hu, hO, hN⟩, hq, hc⟩, g3, g4, -⟩ := h
  obtain ⟨rfl, e2, hb⟩ := g4 rfl
  have hv : ∀ i, ¬ i = j → upd f j (nI 0) i = f i := fun i hi => upd_n hi
  have hb2 : ∀ i, i < 64 → upd f j (nI 0) (64 + i) = -1 := fun i hi => by rw [hv _ (by omega)]; exact hb i hi
  refine ⟨g1, ⟨⟨?_, ?_, (bo_none hb2).1, (bo_none hb2).2⟩, by rw [hv _ (by omega)]; exact hq, fun q b q1 q6 => by rw [hv _ (by omega)]; exact hc q b q1 q6⟩, g3, fun _ => ⟨rfl, e2, hb2⟩, fun z => by cases z⟩
  · rw [up_eq, up_eq, up_eq]; exact r_rem hR hj
  · have hno : ∀ b i, i < 64 → mIsOwn (upd f j (nI 0)) i 1 (sdN b) = true → mIsOwn f i 1 (sdN b) = true := by
      intro b i hi h
      unfold mIsOwn at h ⊢
      by_cases e : i = j
      · rw [e, upd_s] at h
        exact absurd (of_decide_eq_true h) (by cases b <;> decide)
      · rw [hv i e] at h; exact h
    exact fun b i i2 hi hi2 h h2 => hu b i i2 hi hi2 (hno b i hi h) (hno b i2 hi2 h2)
theorem ps_end (h : PS true cn N K pp w bk wa ca qu ve rw f oc) (hm : mEsOk true f d = true) (hr : ∀ k, k < 146 → rw1 k = mEsN f d k) : PS false cn N K pp w bk (va_up wa cn d) ca qu (va_up ve cn (kVer K pp w bk (va_up wa cn d) qu cn)) rw1 (mEsN f d) (mOutc rw1 (mEsN f d) 0) ∧ cn = 0 := by
  obtain ⟨⟨g1, g2, g3, g3b⟩, ⟨⟨hR, hu, hO, hN⟩, hq, hc⟩, g5, g4, -⟩ := h
  obtain ⟨rfl, e2, hb⟩ := g4 rfl
  refine ⟨?_, rfl⟩
  have hv : ∀ i, ¬ i = 128 → mEsN f d i = f i := fun i hi => by unfold mEsN; exact upd_n hi
  have hb2 : ∀ i, i < 64 → mEsN f d (64 + i) = -1 := fun i hi => by rw [hv _ (by omega)]; exact hb i hi
  have hl : ∀ i, i < 64 → mEsN f d i = f i := fun i hi => hv i (by omega)
  unfold mEsOk mKings at hm
  simp only [Bool.and_eq_true, Bool.not_eq_true'] at hm
  obtain ⟨-, ⟨k0, k8⟩, hch⟩ := hm
  have hk : Ki2 (mEsN f d) := ki2_low hl (fun d => by cases d; exact k0; exact k8)
  have hRow : RowOk (mEsN f d) K pp w bk (va_up wa 0 d) ca qu 0 := by
    refine ⟨⟨?_, ku_low hl hu, (bo_none hb2).1, (bo_none hb2).2⟩, by rw [hv _ (by decide)]; exact hq, fun q b q1 q6 => ?_⟩
    · rw [up_eq]; exact r_es hR d
    · rw [hv _ (by omega), hc q b q1 q6, kCap_0 g3 q b q1, kCap_0 g3 q b q1]
  have hag : Agr (mEsN f d) (rowN rw1 0) := fun j hj => by unfold rowN; rw [Nat.mul_zero, Nat.zero_add]; exact (hr j hj).symm
  have hout := g_out (rw := rw1) (f := mEsN f d) (fun i hi => by have e : i = 0 := by omega
                                                                 subst e; exact hRow.1.1.cg hag) hRow hk (by decide)
  refine ⟨⟨g1, g2, g3, g3b⟩, hRow, ⟨by rw [up_eq]; exact hout.symm, by rw [up_eq]; exact kVer_le _ _ _ _ _ _ _⟩, (fun z => by cases z), fun _ => ⟨fun i hi => ?_, hag⟩⟩
  have e : i = 0 := by omega
  subst e
  refine ⟨hRow.cg hag, ⟨hk.cg hag, ?_⟩, up_eq⟩
  rw [up_eq, r_chk hR hu]; exact hch
end SETUP
