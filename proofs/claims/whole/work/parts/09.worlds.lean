def xo : Cl := .inl (3, [.ref 101, .ref 103, .ref 105, .ref 113])
def sg (k : Nat) (L : Int32) : Cl := .inl (2, [.ref k, .int L])
def ar (n : Nat) (f : Nat → Int32) : Cl := .inr (false, n, f)
def WS1 (c0 : Cl) (C : Nat → Int32) (L : Int32) (rest u : List Cl) : Wd := (u, c0 :: sg 102 L :: ar 64 C :: rest)
def WS3 (c0 c1 c2 : Cl) (C : Nat → Int32) (L : Int32) (rest u : List Cl) : Wd := (u, c0 :: c1 :: c2 :: sg 104 L :: ar 64 C :: rest)
def plc (PS : Nat → Int32) : Cl := .inl (1, [.ref 106, .ref 107, .ref 108, .ref 109, .ref 110, .ref 111, .ref 112, .int (PS 7), .int (PS 8), .int (PS 9), .int (PS 10), .int (PS 11), .int (PS 12)])
def WP (c0 c1 c2 c3 c4 : Cl) (PA : Nat → Nat → Int32) (PS : Nat → Int32) (rest u : List Cl) : Wd := (u, c0 :: c1 :: c2 :: c3 :: c4 :: plc PS :: ar 25 (PA 0) :: ar 5 (PA 1) :: ar 25 (PA 2) :: ar 100 (PA 3) :: ar 25 (PA 4) :: ar 25 (PA 5) :: ar 25 (PA 6) :: rest)
def bnl (BA : Nat → Nat → Int32) (BS : Nat → Int32) : List Cl := [.inl (0, [.ref 114, .ref 115, .ref 116, .ref 117, .ref 118, .int (BS 5), .int (BS 6), .int (BS 7), .int (BS 8), .int (BS 9), .int (BS 10), .int (BS 11), .int (BS 12)]), ar 128 (BA 0), ar 128 (BA 1), ar 128 (BA 2), ar 128 (BA 3), ar 5 (BA 4)]
abbrev WX (pgC : Nat → Int32) (pgL : Int32) (stC : Nat → Int32) (stL : Int32) (PA : Nat → Nat → Int32) (PS : Nat → Int32) (BA : Nat → Nat → Int32) (BS : Nat → Int32) (u : List Cl) : Wd := WP xo (sg 102 pgL) (ar 64 pgC) (sg 104 stL) (ar 64 stC) PA PS (bnl BA BS) u
def mdc (MS : Nat → Int32) (Mh : Int64) : Cl := .inl (4, [.int (MS 0), .ref 1, .int (MS 2), .ref 2, .int (MS 4), .int (MS 5), .int (MS 6), .int (MS 7), .int (MS 8), .int (MS 9), .int (MS 10), .int (MS 11), .int (MS 12), .int (MS 13), .int (MS 14), .int (MS 15), .int (MS 16), .int (MS 17), .int (MS 18), .int (MS 19), .int (MS 20), .int (MS 21), .int (MS 22), .ref 3, .ref 4, .ref 5, .long Mh])
def WM (MA : Nat → Nat → Int32) (MS : Nat → Int32) (Mh : Int64) (v : List Cl) : Wd := ([mdc MS Mh, ar 60 (MA 1), ar 64 (MA 3), ar 25 (MA 23), .inr (true, 75, MA 24), ar 300 (MA 25)], v)
def Rt (x : Int32) (w1 : Wd) : Option Value → Wd → Prop := fun r w => r = some (.int x) ∧ w = w1
def Rl (x : Int64) (w1 : Wd) : Option Value → Wd → Prop := fun r w => r = some (.long x) ∧ w = w1
def Rv (w1 : Wd) : Option Value → Wd → Prop := fun r w => r = none ∧ w = w1
def b2i (b : Bool) : Int32 := if b then 1 else 0
theorem b2i_01 (b : Bool) : b2i b = 0 ∨ b2i b = 1 := by cases b <;> decide
theorem idx_of {x : Int32} {n : Nat} (h0 : ¬ x < 0) (h1 : ¬ nI n ≤ x) (hn : n < 2147483648) : x = nI x.toNatClampNeg ∧ x.toNatClampNeg < n := by
  rcases pk_ix x hn with h | h | ⟨j, hj, rfl⟩
  · exact absurd h h0
  · exact absurd h h1
  · rw [nI_clamp (by omega)]
    exact ⟨rfl, hj⟩
section CALLF
variable {d : Nat} {mt : Mt} {mc ms : Nat} {post : Option Value → Wd → Prop} {L : Nat} {xs : Nat → Int32} {g : Nat → Nat → Nat → Lo → List Value → Wd → Prop} {cs sl pc nx : Nat} {lo : Lo} {st : List Value} {w : Wd}

theorem Mach.callVi (M : Mach d mt mc ms post L xs g) {mt1 : Mt} {d1 n k idx : Nat} {as fs : List Value} {v : Int32} {w1 : Wd} (ok : OkV mt1 n) (hlm : LkM (oN mt.2.2.2.2) idx mt1.1) (hC : CC d1 mt1 0 0 (.ref k :: as) w (Rt v w1)) (hck : ckn mt pc (.invokevirtual idx) 3 nx = true) (hdd : d1 < d) (hn : as.length = n) (hrest : (st.map fun v => v.category).sum ≤ 8) (hrc : lkc w k = some (.inl (mt1.2.2.2.2, fs))) (hci : mt1.2.2.2.2 < 5) (kk : g cs sl nx lo (.int v :: st) w1) (hroom : cs + 0 ≤ mc ∧ sl + 0 ≤ ms := by decide) : g cs sl pc lo (as.reverse ++ .ref k :: st) w :=
  M.callV ok hlm hC hck hdd hn hrest hrc hci hroom (fun r w2 h => by obtain ⟨rfl, rfl⟩ := h; exact kk)
theorem Mach.callSi (M : Mach d mt mc ms post L xs g) {mt1 : Mt} {d1 n idx : Nat} {as : List Value} {v : Int32} {w1 : Wd} (ok : OkS mt1 n) (hlm : LkM (oN mt.2.2.2.2) idx mt1.1) (hC : CC d1 mt1 0 0 as w (Rt v w1)) (hck : ckn mt pc (.invokestatic idx) 3 nx = true) (hdd : d1 < d) (hn : as.length = n) (hrest : (st.map fun v => v.category).sum ≤ 8) (kk : g cs sl nx lo (.int v :: st) w1) (hroom : cs + 0 ≤ mc ∧ sl + 0 ≤ ms := by decide) : g cs sl pc lo (as.reverse ++ st) w :=
  M.callS ok hlm hC hck hdd hn hrest hroom (fun r w2 h => by obtain ⟨rfl, rfl⟩ := h; exact kk)
theorem Mach.callVl (M : Mach d mt mc ms post L xs g) {mt1 : Mt} {d1 n k idx : Nat} {as fs : List Value} {v : Int64} {w1 : Wd} (ok : OkV mt1 n) (hlm : LkM (oN mt.2.2.2.2) idx mt1.1) (hC : CC d1 mt1 0 0 (.ref k :: as) w (Rl v w1)) (hck : ckn mt pc (.invokevirtual idx) 3 nx = true) (hdd : d1 < d) (hn : as.length = n) (hrest : (st.map fun v => v.category).sum ≤ 8) (hrc : lkc w k = some (.inl (mt1.2.2.2.2, fs))) (hci : mt1.2.2.2.2 < 5) (kk : g cs sl nx lo (.long v :: st) w1) (hroom : cs + 0 ≤ mc ∧ sl + 0 ≤ ms := by decide) : g cs sl pc lo (as.reverse ++ .ref k :: st) w :=
  M.callV ok hlm hC hck hdd hn hrest hrc hci hroom (fun r w2 h => by obtain ⟨rfl, rfl⟩ := h; exact kk)
theorem Mach.callSl (M : Mach d mt mc ms post L xs g) {mt1 : Mt} {d1 n idx : Nat} {as : List Value} {v : Int64} {w1 : Wd} (ok : OkS mt1 n) (hlm : LkM (oN mt.2.2.2.2) idx mt1.1) (hC : CC d1 mt1 0 0 as w (Rl v w1)) (hck : ckn mt pc (.invokestatic idx) 3 nx = true) (hdd : d1 < d) (hn : as.length = n) (hrest : (st.map fun v => v.category).sum ≤ 8) (kk : g cs sl nx lo (.long v :: st) w1) (hroom : cs + 0 ≤ mc ∧ sl + 0 ≤ ms := by decide) : g cs sl pc lo (as.reverse ++ st) w :=
  M.callS ok hlm hC hck hdd hn hrest hroom (fun r w2 h => by obtain ⟨rfl, rfl⟩ := h; exact kk)
theorem Mach.callVv (M : Mach d mt mc ms post L xs g) {mt1 : Mt} {d1 n k idx : Nat} {as fs : List Value} {w1 : Wd} (ok : OkV mt1 n) (hlm : LkM (oN mt.2.2.2.2) idx mt1.1) (hC : CC d1 mt1 0 0 (.ref k :: as) w (Rv w1)) (hck : ckn mt pc (.invokevirtual idx) 3 nx = true) (hdd : d1 < d) (hn : as.length = n) (hrest : (st.map fun v => v.category).sum ≤ 8) (hrc : lkc w k = some (.inl (mt1.2.2.2.2, fs))) (hci : mt1.2.2.2.2 < 5) (kk : g cs sl nx lo st w1) (hroom : cs + 0 ≤ mc ∧ sl + 0 ≤ ms := by decide) : g cs sl pc lo (as.reverse ++ .ref k :: st) w :=
  M.callV ok hlm hC hck hdd hn hrest hrc hci hroom (fun r w2 h => by obtain ⟨rfl, rfl⟩ := h; exact kk)
theorem Mach.callSv (M : Mach d mt mc ms post L xs g) {mt1 : Mt} {d1 n idx : Nat} {as : List Value} {w1 : Wd} (ok : OkS mt1 n) (hlm : LkM (oN mt.2.2.2.2) idx mt1.1) (hC : CC d1 mt1 0 0 as w (Rv w1)) (hck : ckn mt pc (.invokestatic idx) 3 nx = true) (hdd : d1 < d) (hn : as.length = n) (hrest : (st.map fun v => v.category).sum ≤ 8) (kk : g cs sl nx lo st w1) (hroom : cs + 0 ≤ mc ∧ sl + 0 ≤ ms := by decide) : g cs sl pc lo (as.reverse ++ st) w :=
  M.callS ok hlm hC hck hdd hn hrest hroom (fun r w2 h => by obtain ⟨rfl, rfl⟩ := h; exact kk)
end CALLF
