/-! ===== the chain of pages ===== -/
def pgV (pa : Nat → Nat) : Nat → Value
  | 0 => .null
  | i + 1 => .ref (pa i)
def afV (pa : Nat → Nat) (N i : Nat) : Value := if i + 1 < N then .ref (pa (i + 1)) else .null
def PgAt (M : MP) (pa po ca qu ve : Nat → Nat) (N i : Nat) : Prop := M (pa i) = some (.inr (0, [.ref (po i), pgV pa i, .int (nI i), afV pa N i, .int (nI (ca i)), .int (nI (qu i)), .int (nI (ve i))]))
def Pages (cI cJ : ClassId) (M : MP) (pa po okk pt : Nat → Nat) (K : Nat → Nat → BitVec 64) (pp : Nat → Nat → Int32) (w bk : Nat → BitVec 64) (wa : Nat → Bool) (ca qu ve : Nat → Nat) (N : Nat) : Prop :=
  (∀ i, i < N → PgAt M pa po ca qu ve N i) ∧ (∀ i, i < N → PosAt cI cJ M (po i) (okk i) (pt i) (K i) (pp i) (w i) (bk i) (wa i)) ∧ (∀ i j, i < N → j < N → i ≠ j → pa i ≠ pa j ∧ po i ≠ po j ∧ okk i ≠ okk j ∧ pt i ≠ pt j)
/-- counting from the last down -/
def kCntD (p : Nat → Bool) : Nat → Nat → Nat
  | 0, r => r
  | j + 1, r => kCntD p j (if p j then r + 1 else r)
theorem kCntD_le (p : Nat → Bool) : ∀ n r, kCntD p n r ≤ r + n
  | 0, r => Nat.le_refl _
  | n + 1, r => by
    unfold kCntD
    have := kCntD_le p n (if p n then r + 1 else r)
    split at this <;> split <;> simp_all <;> omega
def kEqP (K : Nat → Nat → BitVec 64) (pp : Nat → Nat → Int32) (w bk : Nat → BitVec 64) (wa : Nat → Bool) (cn i : Nat) : Bool := kEq (K i) (K cn) (pp i) (pp cn) (w i) (bk i) (w cn) (bk cn) (wa i) (wa cn)
def kTm (K : Nat → Nat → BitVec 64) (pp : Nat → Nat → Int32) (w bk : Nat → BitVec 64) (wa : Nat → Bool) (cn : Nat) : Nat := kCntD (kEqP K pp w bk wa cn) (cn + 1) 0
theorem kTm_le (K : Nat → Nat → BitVec 64) (pp : Nat → Nat → Int32) (w bk : Nat → BitVec 64) (wa : Nat → Bool) (cn : Nat) : kTm K pp w bk wa cn ≤ cn + 1 := by have := kCntD_le (kEqP K pp w bk wa cn) (cn + 1) 0; unfold kTm; omega
def kCap (ca : Nat → Nat) (wa : Nat → Bool) (k : Nat) (b : Bool) (cn : Nat) : Nat := kCntD (fun i => decide (ca i = k) && decide (wa i = b)) (cn + 1) 0
def kVer (K : Nat → Nat → BitVec 64) (pp : Nat → Nat → Int32) (w bk : Nat → BitVec 64) (wa : Nat → Bool) (qu : Nat → Nat) (cn : Nat) : Nat :=
  if !kHas (K cn) (pp cn) (w cn) (bk cn) (wa cn) && kChk (K cn) (w cn) (bk cn) (wa cn) then 1
  else if !kHas (K cn) (pp cn) (w cn) (bk cn) (wa cn) && !kBAct (K cn) (pp cn) (w cn) (bk cn) (wa cn) then 2
  else if w cn ||| bk cn = K cn 1 then 3
  else if 3 ≤ kTm K pp w bk wa cn then 4
  else if qu cn < 40 then 0 else 5
theorem kVer_le (K : Nat → Nat → BitVec 64) (pp : Nat → Nat → Int32) (w bk : Nat → BitVec 64) (wa : Nat → Bool) (qu : Nat → Nat) (cn : Nat) : kVer K pp w bk wa qu cn ≤ 5 := by unfold kVer; (repeat' split) <;> decide
theorem pgV_or (pa : Nat → Nat) (i : Nat) : pgV pa i = .null ∨ ∃ x, pgV pa i = .ref x := by
  cases i with
  | zero => exact Or.inl rfl
  | succ i => exact Or.inr ⟨_, rfl⟩
section ASTV
variable {p : Program} {l : Launch} {e : Env} {R : Room} {s : State} {m : MethodId} {args : Array Value} {below : List Frame} {meth : Method} {c : Code} {H : Heap} {locs : List Loc} {cells slots : Nat} {Q : State → Prop}
variable {cc : ByteArray} {pc : Nat} {ls : Array Slot} {rest : List Value}
theorem w_astore_n (hexec : p.tables.exec = Jvm.exec) (hb : c.code = cc) {v : Value} (hv : v = .null ∨ ∃ x, v = .ref x) {k : Fin 4} {i nL : Nat} {lv lv' : List (Nat × Value)} (hdg : decode cc pc = .ok (.astore_n k, 1)) (hi : (k : Nat) = i) (h : lv_has ls nL lv) (hn : i < nL) (hl : (i, v) :: lv.filter (fun q => !(q.1 == i) && !(q.1 + 1 == i && q.2.category == 2)) = lv')
    (kk : ∀ ls' : Array Slot, lv_has ls' nL lv' → W p l e R s m args below meth c H locs cells slots Q (F0 m (pc + 1) ls' rest)) : W p l e R s m args below meth c H locs cells slots Q (F0 m pc ls (v :: rest)) := by
  rcases hv with rfl | ⟨x, rfl⟩
  · exact lv_astore_nN hexec hb hdg hi h hn hl kk
  · exact lv_astore_n hexec hb hdg hi h hn hl kk
theorem w_astore (hexec : p.tables.exec = Jvm.exec) (hb : c.code = cc) {v : Value} (hv : v = .null ∨ ∃ x, v = .ref x) {i nL : Nat} {lv lv' : List (Nat × Value)} (hdg : decode cc pc = .ok (.astore i, 2)) (h : lv_has ls nL lv) (hn : i < nL) (hl : (i, v) :: lv.filter (fun q => !(q.1 == i) && !(q.1 + 1 == i && q.2.category == 2)) = lv')
    (kk : ∀ ls' : Array Slot, lv_has ls' nL lv' → W p l e R s m args below meth c H locs cells slots Q (F0 m (pc + 2) ls' rest)) : W p l e R s m args below meth c H locs cells slots Q (F0 m pc ls (v :: rest)) := by
  rcases hv with rfl | ⟨x, rfl⟩
  · exact lv_astoreN hexec hb hdg h hn hl kk
  · exact lv_astore hexec hb hdg h hn hl kk
end ASTV
