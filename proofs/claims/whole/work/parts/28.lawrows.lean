-- ===== end of PART A; then your names; then what follows =====
/-! THE CLAIM OUT OF ONE WALK OF THE LAW'S BODY. Your part is whole_start (and what it stands on); all else here is the same for every law, but numbers. -/
def R_law : String := "LedgerHoundsLaw"
def lw_P (b : Addr) (xs : List Int32) (args : Array Value) (s : State) : Prop := args = #[.ref b] ∧ s.IntsAt b xs ∧ xs.length ≤ 3072 ∧ (Jvm.Cond.and given_1 narrow_1).before args s = true
def lw_Q (_ : Array Value) (s : State) (o : Outcome) (t : State) : Prop := o = .returned (some (.int 1)) ∧ Framed s o t [] 600000 7302250
def lw_Z (below : List Frame) (a : Array Value) (s : State) : State → Prop := fun t => ∃ o, t.status = .running ∧ Ended t below o ∧ lw_Q a s o t
/-- the law's own end, with 1 on the stack, nothing written that was there before, its room as the claim has it -/
theorem lw_ret {p : Program} {l : Launch} {e : Env} {s : State} {m : MethodId} {below : List Frame} {meth : Method} {c : Code} {b : Nat} (hx : p.tables.exec = Jvm.exec) (hb : c.code = code) (hr : meth.sig.returnType = ret) (hlocks : meth.locks = false) {pc : Nat} {H : Heap} {ls : Array Slot} (hdg : decode code pc = .ok (.ireturn, 1)) : W p l e room_1 s m #[Value.ref b] below meth c H [] 600000 7302250 (lw_Z below #[Value.ref b] s) (F0 m pc ls [.int 1]) := by
  intro T hT X
  obtain ⟨fs, hret, hrun, hended, hW, hframe⟩ := X.leave (v := some (.int 1)) (hlocks := hlocks) (fun h => by rw [hr] at h; cases h)
  have hmeth' : T.vm.method? m = some meth := X.method'
  refine ⟨T.setFrames fs, ?_, .returned (some (.int 1)), hrun, hended, rfl, ⟨_, rfl⟩, hW, hframe⟩
  jvm_step X.here [X.here.top, hx, hb, hdg, hmeth', hr, ret, narrow_b1]
  (try refine ⟨rfl, ?_⟩); (try refine ⟨rfl, ?_⟩)
  first | (intro acts; rw [hret _ acts rfl rfl rfl]) | rw [hret _ _ rfl rfl rfl]
  exact Steps.refl _
/-- what holds at the law's entry: the machine, the code, the tables' words (any of lw_tbl by 'hts w (by decide +kernel)'), the script of L ints xs at the cell b, what the Statement gives of the start (any of its parts by flat_of_before) -/
def lw_At (p : Program) (s : State) (m : MethodId) (meth : Method) (c : Code) (b L : Nat) (xs : Nat → Int32) : Prop :=
  p.tables.exec = Jvm.exec ∧ c.code = code ∧ meth.sig.returnType = ret ∧ c.maxLocals = 4 ∧ s.vm.findClass R_law = some m.cls ∧ (∀ w ∈ lw_tbl, w.before #[Value.ref b] s = true) ∧ va_X b L xs s s.heap ∧ b < s.heap.size ∧ meth.locks = false ∧ (Jvm.Cond.and given_1 narrow_1).before #[Value.ref b] s = true
/-! Two memories in one heap -/
def adX (b0 h : Nat) : Nat := if h < 64 then b0 + h else b0 + 25 + h
def adM (b0 h : Nat) : Nat := if h < 25 then b0 + 64 + h else b0 + 1000000000 + h
def AX (b0 q : Nat) : Prop := b0 ≤ q ∧ ¬ (b0 + 64 ≤ q ∧ q < b0 + 89)
def AM (b0 q : Nat) : Prop := (b0 + 64 ≤ q ∧ q < b0 + 89) ∨ b0 + 1000000000 ≤ q
theorem adX_inj (b0 a b : Nat) (h : adX b0 a = adX b0 b) : a = b := by
  unfold adX at h
  split at h <;> split at h <;> omega
theorem adM_inj (b0 a b : Nat) (h : adM b0 a = adM b0 b) : a = b := by
  unfold adM at h
  split at h <;> split at h <;> omega
theorem adX_A (b0 h : Nat) : AX b0 (adX b0 h) := by
  unfold AX adX
  split <;> omega
theorem adM_A (b0 h : Nat) : AM b0 (adM b0 h) := by
  unfold AM adM
  split <;> omega
theorem adX_nM {b0 h : Nat} (hh : h ≤ 100000) : ¬ AM b0 (adX b0 h) := by
  unfold AM adX
  split <;> omega
theorem adM_nX {b0 h : Nat} (hh : h < 25) : ¬ AX b0 (adM b0 h) := by
  unfold AX adM
  rw [if_pos hh]
  omega
theorem AX_ge {b0 q : Nat} (h : AX b0 q) : b0 ≤ q := h.1
theorem AM_ge {b0 q : Nat} (h : AM b0 q) : b0 ≤ q := by unfold AM at h; omega
/-- the law's world: the class's memory, the reference's, all older cells as they were -/
def LW (D : va_G) (cy : Nat → ClassId) (s : State) (S : St) (V Vm : Vt) (H : Heap) : Prop := HM D cy (adX s.heap.size) S V H ∧ HM D cy (adM s.heap.size) (SM H.size) Vm H ∧ s.heap.size ≤ H.size ∧ (∀ q, q < s.heap.size → H[q]? = s.heap[q]?) ∧ S.1 ≤ 100000
theorem LW.wx {D : va_G} {cy : Nat → ClassId} {s : State} {S : St} {V Vm : Vt} {H : Heap} (w : LW D cy s S V Vm H) : Wd D cy (adX s.heap.size) (AX s.heap.size) s.heap S V H [] := ⟨w.1, w.2.2.1, fun q h _ => w.2.2.2.1 q h, fun l hl => by cases hl⟩
theorem LW.wm {D : va_G} {cy : Nat → ClassId} {s : State} {S : St} {V Vm : Vt} {H : Heap} (w : LW D cy s S V Vm H) : Wd D cy (adM s.heap.size) (AM s.heap.size) s.heap (SM H.size) Vm H [] := ⟨w.2.1, w.2.2.1, fun q h _ => w.2.2.2.1 q h, fun l hl => by cases hl⟩
theorem hc_SM {D : va_G} {cy : Nat → ClassId} {ad : Nat → Nat} {z z' : Nat} {Vm : Vt} {h : Nat} {H : Heap} (hh : hc D cy ad (SM z) Vm h H) : hc D cy ad (SM z') Vm h H := hh
theorem LW.aX {D : va_G} {cy : Nat → ClassId} {s : State} {S S' : St} {V V' Vm : Vt} {H H1 : Heap} (w : LW D cy s S V Vm H) (hM : HM D cy (adX s.heap.size) S' V' H1) (hz : H.size ≤ H1.size) (hk : ∀ q, q < H.size → ¬ AX s.heap.size q → H1[q]? = H[q]?) (hS : S'.1 ≤ 100000) : LW D cy s S' V' Vm H1 := by
  refine ⟨hM, ⟨rfl, fun h hh => ?_⟩, Nat.le_trans w.2.2.1 hz, fun q hq => (hk q (Nat.lt_of_lt_of_le hq w.2.2.1) (fun z => absurd (AX_ge z) (Nat.not_le.mpr hq))).trans (w.2.2.2.1 q hq), hS⟩
  have h1 : hc D cy (adM s.heap.size) (SM H1.size) Vm h H := hc_SM (w.2.1.2 h hh)
  exact h1.kept (hk _ h1.lt (adM_nX hh))
theorem LW.aM {D : va_G} {cy : Nat → ClassId} {s : State} {S : St} {V Vm Vm' : Vt} {H H1 : Heap} (w : LW D cy s S V Vm H) (hM : HM D cy (adM s.heap.size) (SM H.size) Vm' H1) (hz : H.size ≤ H1.size) (hk : ∀ q, q < H.size → ¬ AM s.heap.size q → H1[q]? = H[q]?) : LW D cy s S V Vm' H1 := by
  have e1 : H1.size = H.size := hM.1
  refine ⟨⟨e1.trans w.1.1, fun h hh => ?_⟩, ⟨rfl, fun h hh => hc_SM (hM.2 h hh)⟩, Nat.le_trans w.2.2.1 hz, fun q hq => (hk q (Nat.lt_of_lt_of_le hq w.2.2.1) (fun z => absurd (AM_ge z) (Nat.not_le.mpr hq))).trans (w.2.2.2.1 q hq), w.2.2.2.2⟩
  have h1 := w.1.2 h hh
  exact h1.kept (hk _ h1.lt (adX_nM (by have := w.2.2.2.2; omega)))
section LWR
variable {p : Program} {l : Launch} {e : Env} {R : Room} {s : State} {m : MethodId} {args : Array Value} {below : List Frame} {meth : Method} {c : Code} {H : Heap} {cells slots mc ms : Nat} {Q : State → Prop}
variable {pc : Nat} {ls : Array Slot} {rest st0 : List Value} {D : va_G} {cy : Nat → ClassId} {S S' : St} {V V' Vm Vm' : Vt} {a : Array Value}
theorem lx_i {r : Int32} (hr : va_Run p l e R s m args below meth c H [] cells slots mc ms (F0 m pc ls st0) rest (QI D cy (adX s.heap.size) (AX s.heap.size) r S' V' a) (AX s.heap.size)) (w : LW D cy s S V Vm H) (hS : S'.1 ≤ 100000)
    (kk : ∀ H', LW D cy s S' V' Vm H' → W p l e R s m args below meth c H' [] (cells + mc) (slots + ms) Q (F0 m (pc + 3) ls (.int r :: rest))) : W p l e R s m args below meth c H [] cells slots Q (F0 m pc ls st0) := by
  refine va_calli hr w.wx.2 (fun _ _ h => h) (fun _ h => h) (fun r2 u t H1 locs1 ht hvm hp hB hz hk hSS => ?_)
  subst hp
  exact va_forget (fun q hq => AX_ge (hSS.2.2 q hq)) (kk H1 (w.aX (by rw [← ht]; exact hB) hz hk hS))
theorem lx_l {r : Int64} (hr : va_Run p l e R s m args below meth c H [] cells slots mc ms (F0 m pc ls st0) rest (QL D cy (adX s.heap.size) (AX s.heap.size) r S' V' a) (AX s.heap.size)) (w : LW D cy s S V Vm H) (hS : S'.1 ≤ 100000)
    (kk : ∀ H', LW D cy s S' V' Vm H' → W p l e R s m args below meth c H' [] (cells + mc) (slots + ms) Q (F0 m (pc + 3) ls (.long r :: rest))) : W p l e R s m args below meth c H [] cells slots Q (F0 m pc ls st0) := by
  refine va_calll hr w.wx.2 (fun _ _ h => h) (fun _ h => h) (fun r2 u t H1 locs1 ht hvm hp hB hz hk hSS => ?_)
  subst hp
  exact va_forget (fun q hq => AX_ge (hSS.2.2 q hq)) (kk H1 (w.aX (by rw [← ht]; exact hB) hz hk hS))
theorem lm_i {r : Int32} (hr : va_Run p l e R s m args below meth c H [] cells slots mc ms (F0 m pc ls st0) rest (QI D cy (adM s.heap.size) (AM s.heap.size) r (SM H.size) Vm' a) (AM s.heap.size)) (w : LW D cy s S V Vm H)
    (kk : ∀ H', LW D cy s S V Vm' H' → W p l e R s m args below meth c H' [] (cells + mc) (slots + ms) Q (F0 m (pc + 3) ls (.int r :: rest))) : W p l e R s m args below meth c H [] cells slots Q (F0 m pc ls st0) := by
  refine va_calli hr w.wm.2 (fun _ _ h => h) (fun _ h => h) (fun r2 u t H1 locs1 ht hvm hp hB hz hk hSS => ?_)
  subst hp
  exact va_forget (fun q hq => AM_ge (hSS.2.2 q hq)) (kk H1 (w.aM (by rw [← ht]; exact hB) hz hk))
theorem lm_l {r : Int64} (hr : va_Run p l e R s m args below meth c H [] cells slots mc ms (F0 m pc ls st0) rest (QL D cy (adM s.heap.size) (AM s.heap.size) r (SM H.size) Vm' a) (AM s.heap.size)) (w : LW D cy s S V Vm H)
    (kk : ∀ H', LW D cy s S V Vm' H' → W p l e R s m args below meth c H' [] (cells + mc) (slots + ms) Q (F0 m (pc + 3) ls (.long r :: rest))) : W p l e R s m args below meth c H [] cells slots Q (F0 m pc ls st0) := by
  refine va_calll hr w.wm.2 (fun _ _ h => h) (fun _ h => h) (fun r2 u t H1 locs1 ht hvm hp hB hz hk hSS => ?_)
  subst hp
  exact va_forget (fun q hq => AM_ge (hSS.2.2 q hq)) (kk H1 (w.aM (by rw [← ht]; exact hB) hz hk))
end LWR
