/-! the reference: what works a node -/
section STEP
variable {P : SP} {G : Int → UInt64 → Prop} {E : Int32 → SS → SO} {d : Nat} {n0 : Int32} {Q : xQ} {k : Nat} {m0 : MS} {n : Int32}
set_option maxRecDepth 100000 in
set_option maxHeartbeats 1000000 in
theorem lp_step3 {s b : Int32} {S : SS} {m : MS} (nc : NC P G E d n0 Q k m0 n) (t : TOP k m0 n s b S m) (hF : rF S.2.2 = 0) (hc : pC P (ix n) = 3) (h : ∀ Q' : xQ, (∀ S' m', Lp P d n0 Q S' m' → Q' none (wM P S' m')) → Cd 15 144 [.ref 0, .int n, .int s] (wM P S m) Q') : Lp P d n0 Q S m := by
  refine lp_step t.2.1 nc.k90 hF (fun Q' hQ => ?_)
  have hd := nc.deep
  obtain ⟨e1, e2⟩ := t.d1 nc.k90
  have eat : n = mAt m (ix (mDeep m - 1)) := by rw [e1]; exact t.2.2.2.1.symm
  have est : s = mStage m (ix (mDeep m - 1)) := by rw [e1]; exact t.2.2.2.2.1.symm
  have hn := nc.nin
  rw [eat, est] at h
  rw [eat] at hn hc
  refine Cd.up (show 16 ≤ d by omega) ?_
  refine Cd.mk cdX8_step 3 4 0 [(0, .ref 0)] rfl rfl rfl rfl 0 ?_
  refine Ev.go (Cd.mono 15) [] 100 ?_
  refine And.intro e2 ?_
  refine And.intro e2 ?_
  refine And.intro hn ?_
  refine And.intro (fun hx => absurd (hc.symm.trans hx) (by decide)) (fun _ => ?_)
  refine And.intro (fun hx => absurd (hc.symm.trans hx) (by decide)) (fun _ => ?_)
  refine And.intro (fun hx => absurd (hc.symm.trans hx) (by decide)) (fun _ => ?_)
  refine And.intro (fun _ => ?_) (fun hx => absurd hc hx)
  exact h _ (fun S' m' q => hQ S' m' q)
set_option maxRecDepth 100000 in
set_option maxHeartbeats 1000000 in
theorem lp_step4 {s b : Int32} {S : SS} {m : MS} (nc : NC P G E d n0 Q k m0 n) (t : TOP k m0 n s b S m) (hF : rF S.2.2 = 0) (hc : pC P (ix n) = 4) (h : ∀ Q' : xQ, (∀ S' m', Lp P d n0 Q S' m' → Q' none (wM P S' m')) → Cd 15 144 [.ref 0, .int n, .int s] (wM P S m) Q') : Lp P d n0 Q S m := by
  refine lp_step t.2.1 nc.k90 hF (fun Q' hQ => ?_)
  have hd := nc.deep
  obtain ⟨e1, e2⟩ := t.d1 nc.k90
  have eat : n = mAt m (ix (mDeep m - 1)) := by rw [e1]; exact t.2.2.2.1.symm
  have est : s = mStage m (ix (mDeep m - 1)) := by rw [e1]; exact t.2.2.2.2.1.symm
  have hn := nc.nin
  rw [eat, est] at h
  rw [eat] at hn hc
  refine Cd.up (show 16 ≤ d by omega) ?_
  refine Cd.mk cdX8_step 3 4 0 [(0, .ref 0)] rfl rfl rfl rfl 0 ?_
  refine Ev.go (Cd.mono 15) [] 100 ?_
  refine And.intro e2 ?_
  refine And.intro e2 ?_
  refine And.intro hn ?_
  refine And.intro (fun hx => absurd (hc.symm.trans hx) (by decide)) (fun _ => ?_)
  refine And.intro (fun hx => absurd (hc.symm.trans hx) (by decide)) (fun _ => ?_)
  refine And.intro (fun hx => absurd (hc.symm.trans hx) (by decide)) (fun _ => ?_)
  refine And.intro (fun hx => absurd (hc.symm.trans hx) (by decide)) (fun _ => ?_)
  refine And.intro (fun _ => ?_) (fun hx => absurd hc hx)
  exact h _ (fun S' m' q => hQ S' m' q)
set_option maxRecDepth 100000 in
set_option maxHeartbeats 1000000 in
theorem lp_step6 {s b : Int32} {S : SS} {m : MS} (nc : NC P G E d n0 Q k m0 n) (t : TOP k m0 n s b S m) (hF : rF S.2.2 = 0) (hc : pC P (ix n) = 6) (h : ∀ Q' : xQ, (∀ S' m', Lp P d n0 Q S' m' → Q' none (wM P S' m')) → Cd 15 130 [.ref 0, .int n, .int s] (wM P S m) Q') : Lp P d n0 Q S m := by
  refine lp_step t.2.1 nc.k90 hF (fun Q' hQ => ?_)
  have hd := nc.deep
  obtain ⟨e1, e2⟩ := t.d1 nc.k90
  have eat : n = mAt m (ix (mDeep m - 1)) := by rw [e1]; exact t.2.2.2.1.symm
  have est : s = mStage m (ix (mDeep m - 1)) := by rw [e1]; exact t.2.2.2.2.1.symm
  have hn := nc.nin
  rw [eat, est] at h
  rw [eat] at hn hc
  refine Cd.up (show 16 ≤ d by omega) ?_
  refine Cd.mk cdX8_step 3 4 0 [(0, .ref 0)] rfl rfl rfl rfl 0 ?_
  refine Ev.go (Cd.mono 15) [] 100 ?_
  refine And.intro e2 ?_
  refine And.intro e2 ?_
  refine And.intro hn ?_
  refine And.intro (fun hx => absurd (hc.symm.trans hx) (by decide)) (fun _ => ?_)
  refine And.intro (fun hx => absurd (hc.symm.trans hx) (by decide)) (fun _ => ?_)
  refine And.intro (fun hx => absurd (hc.symm.trans hx) (by decide)) (fun _ => ?_)
  refine And.intro (fun hx => absurd (hc.symm.trans hx) (by decide)) (fun _ => ?_)
  refine And.intro (fun hx => absurd (hc.symm.trans hx) (by decide)) (fun _ => ?_)
  refine And.intro (fun hx => absurd (hc.symm.trans hx) (by decide)) (fun _ => ?_)
  refine And.intro (fun _ => ?_) (fun hx => absurd hc hx)
  exact h _ (fun S' m' q => hQ S' m' q)
set_option maxRecDepth 100000 in
set_option maxHeartbeats 1000000 in
theorem lp_step7 {s b : Int32} {S : SS} {m : MS} (nc : NC P G E d n0 Q k m0 n) (t : TOP k m0 n s b S m) (hF : rF S.2.2 = 0) (hc : pC P (ix n) = 7) (h : ∀ Q' : xQ, (∀ S' m', Lp P d n0 Q S' m' → Q' none (wM P S' m')) → Cd 15 130 [.ref 0, .int n, .int s] (wM P S m) Q') : Lp P d n0 Q S m := by
  refine lp_step t.2.1 nc.k90 hF (fun Q' hQ => ?_)
  have hd := nc.deep
  obtain ⟨e1, e2⟩ := t.d1 nc.k90
  have eat : n = mAt m (ix (mDeep m - 1)) := by rw [e1]; exact t.2.2.2.1.symm
  have est : s = mStage m (ix (mDeep m - 1)) := by rw [e1]; exact t.2.2.2.2.1.symm
  have hn := nc.nin
  rw [eat, est] at h
  rw [eat] at hn hc
  refine Cd.up (show 16 ≤ d by omega) ?_
  refine Cd.mk cdX8_step 3 4 0 [(0, .ref 0)] rfl rfl rfl rfl 0 ?_
  refine Ev.go (Cd.mono 15) [] 100 ?_
  refine And.intro e2 ?_
  refine And.intro e2 ?_
  refine And.intro hn ?_
  refine And.intro (fun hx => absurd (hc.symm.trans hx) (by decide)) (fun _ => ?_)
  refine And.intro (fun hx => absurd (hc.symm.trans hx) (by decide)) (fun _ => ?_)
  refine And.intro (fun hx => absurd (hc.symm.trans hx) (by decide)) (fun _ => ?_)
  refine And.intro (fun hx => absurd (hc.symm.trans hx) (by decide)) (fun _ => ?_)
  refine And.intro (fun hx => absurd (hc.symm.trans hx) (by decide)) (fun _ => ?_)
  refine And.intro (fun hx => absurd (hc.symm.trans hx) (by decide)) (fun _ => ?_)
  refine And.intro (fun hx => absurd (hc.symm.trans hx) (by decide)) (fun _ => ?_)
  refine And.intro (fun _ => ?_) (fun hx => absurd hc hx)
  exact h _ (fun S' m' q => hQ S' m' q)
set_option maxRecDepth 100000 in
set_option maxHeartbeats 1000000 in
theorem lp_step8 {s b : Int32} {S : SS} {m : MS} (nc : NC P G E d n0 Q k m0 n) (t : TOP k m0 n s b S m) (hF : rF S.2.2 = 0) (hc : pC P (ix n) = 8) (h : ∀ Q' : xQ, (∀ S' m', Lp P d n0 Q S' m' → Q' none (wM P S' m')) → Cd 15 145 [.ref 0, .int n] (wM P S m) Q') : Lp P d n0 Q S m := by
  refine lp_step t.2.1 nc.k90 hF (fun Q' hQ => ?_)
  have hd := nc.deep
  obtain ⟨e1, e2⟩ := t.d1 nc.k90
  have eat : n = mAt m (ix (mDeep m - 1)) := by rw [e1]; exact t.2.2.2.1.symm
  have est : s = mStage m (ix (mDeep m - 1)) := by rw [e1]; exact t.2.2.2.2.1.symm
  have hn := nc.nin
  rw [eat] at h
  rw [eat] at hn hc
  refine Cd.up (show 16 ≤ d by omega) ?_
  refine Cd.mk cdX8_step 3 4 0 [(0, .ref 0)] rfl rfl rfl rfl 0 ?_
  refine Ev.go (Cd.mono 15) [] 100 ?_
  refine And.intro e2 ?_
  refine And.intro e2 ?_
  refine And.intro hn ?_
  refine And.intro (fun hx => absurd (hc.symm.trans hx) (by decide)) (fun _ => ?_)
  refine And.intro (fun hx => absurd (hc.symm.trans hx) (by decide)) (fun _ => ?_)
  refine And.intro (fun hx => absurd (hc.symm.trans hx) (by decide)) (fun _ => ?_)
  refine And.intro (fun hx => absurd (hc.symm.trans hx) (by decide)) (fun _ => ?_)
  refine And.intro (fun hx => absurd (hc.symm.trans hx) (by decide)) (fun _ => ?_)
  refine And.intro (fun hx => absurd (hc.symm.trans hx) (by decide)) (fun _ => ?_)
  refine And.intro (fun hx => absurd (hc.symm.trans hx) (by decide)) (fun _ => ?_)
  refine And.intro (fun hx => absurd (hc.symm.trans hx) (by decide)) (fun _ => ?_)
  refine And.intro (fun _ => ?_) (fun hx => absurd hc hx)
  exact h _ (fun S' m' q => hQ S' m' q)
set_option maxRecDepth 100000 in
set_option maxHeartbeats 1000000 in
theorem lp_step9 {s b : Int32} {S : SS} {m : MS} (nc : NC P G E d n0 Q k m0 n) (t : TOP k m0 n s b S m) (hF : rF S.2.2 = 0) (hc : pC P (ix n) = 9) (h : ∀ Q' : xQ, (∀ S' m', Lp P d n0 Q S' m' → Q' none (wM P S' m')) → Cd 15 131 [.ref 0, .int n, .int s] (wM P S m) Q') : Lp P d n0 Q S m := by
  refine lp_step t.2.1 nc.k90 hF (fun Q' hQ => ?_)
  have hd := nc.deep
  obtain ⟨e1, e2⟩ := t.d1 nc.k90
  have eat : n = mAt m (ix (mDeep m - 1)) := by rw [e1]; exact t.2.2.2.1.symm
  have est : s = mStage m (ix (mDeep m - 1)) := by rw [e1]; exact t.2.2.2.2.1.symm
  have hn := nc.nin
  rw [eat, est] at h
  rw [eat] at hn hc
  refine Cd.up (show 16 ≤ d by omega) ?_
  refine Cd.mk cdX8_step 3 4 0 [(0, .ref 0)] rfl rfl rfl rfl 0 ?_
  refine Ev.go (Cd.mono 15) [] 100 ?_
  refine And.intro e2 ?_
  refine And.intro e2 ?_
  refine And.intro hn ?_
  refine And.intro (fun hx => absurd (hc.symm.trans hx) (by decide)) (fun _ => ?_)
  refine And.intro (fun hx => absurd (hc.symm.trans hx) (by decide)) (fun _ => ?_)
  refine And.intro (fun hx => absurd (hc.symm.trans hx) (by decide)) (fun _ => ?_)
  refine And.intro (fun hx => absurd (hc.symm.trans hx) (by decide)) (fun _ => ?_)
  refine And.intro (fun hx => absurd (hc.symm.trans hx) (by decide)) (fun _ => ?_)
  refine And.intro (fun hx => absurd (hc.symm.trans hx) (by decide)) (fun _ => ?_)
  refine And.intro (fun hx => absurd (hc.symm.trans hx) (by decide)) (fun _ => ?_)
  refine And.intro (fun hx => absurd (hc.symm.trans hx) (by decide)) (fun _ => ?_)
  refine And.intro (fun hx => absurd (hc.symm.trans hx) (by decide)) (fun _ => ?_)
  refine And.intro (fun _ => ?_) (fun hx => absurd hc hx)
  exact h _ (fun S' m' q => hQ S' m' q)
set_option maxRecDepth 100000 in
set_option maxHeartbeats 1000000 in
theorem lp_step11 {s b : Int32} {S : SS} {m : MS} (nc : NC P G E d n0 Q k m0 n) (t : TOP k m0 n s b S m) (hF : rF S.2.2 = 0) (hc : pC P (ix n) = 11) (h : ∀ Q' : xQ, (∀ S' m', Lp P d n0 Q S' m' → Q' none (wM P S' m')) → Cd 15 132 [.ref 0, .int n, .int s] (wM P S m) Q') : Lp P d n0 Q S m := by
  refine lp_step t.2.1 nc.k90 hF (fun Q' hQ => ?_)
  have hd := nc.deep
  obtain ⟨e1, e2⟩ := t.d1 nc.k90
  have eat : n = mAt m (ix (mDeep m - 1)) := by rw [e1]; exact t.2.2.2.1.symm
  have est : s = mStage m (ix (mDeep m - 1)) := by rw [e1]; exact t.2.2.2.2.1.symm
  have hn := nc.nin
  rw [eat, est] at h
  rw [eat] at hn hc
  refine Cd.up (show 16 ≤ d by omega) ?_
  refine Cd.mk cdX8_step 3 4 0 [(0, .ref 0)] rfl rfl rfl rfl 0 ?_
  refine Ev.go (Cd.mono 15) [] 100 ?_
  refine And.intro e2 ?_
  refine And.intro e2 ?_
  refine And.intro hn ?_
  refine And.intro (fun hx => absurd (hc.symm.trans hx) (by decide)) (fun _ => ?_)
  refine And.intro (fun hx => absurd (hc.symm.trans hx) (by decide)) (fun _ => ?_)
  refine And.intro (fun hx => absurd (hc.symm.trans hx) (by decide)) (fun _ => ?_)
  refine And.intro (fun hx => absurd (hc.symm.trans hx) (by decide)) (fun _ => ?_)
  refine And.intro (fun hx => absurd (hc.symm.trans hx) (by decide)) (fun _ => ?_)
  refine And.intro (fun hx => absurd (hc.symm.trans hx) (by decide)) (fun _ => ?_)
  refine And.intro (fun hx => absurd (hc.symm.trans hx) (by decide)) (fun _ => ?_)
  refine And.intro (fun hx => absurd (hc.symm.trans hx) (by decide)) (fun _ => ?_)
  refine And.intro (fun hx => absurd (hc.symm.trans hx) (by decide)) (fun _ => ?_)
  refine And.intro (fun hx => absurd (hc.symm.trans hx) (by decide)) (fun _ => ?_)
  refine And.intro (fun hx => absurd (hc.symm.trans hx) (by decide)) (fun _ => ?_)
  refine And.intro (fun _ => ?_) (fun hx => absurd hc hx)
  exact h _ (fun S' m' q => hQ S' m' q)
set_option maxRecDepth 100000 in
set_option maxHeartbeats 1000000 in
theorem lp_step12 {s b : Int32} {S : SS} {m : MS} (nc : NC P G E d n0 Q k m0 n) (t : TOP k m0 n s b S m) (hF : rF S.2.2 = 0) (hc : pC P (ix n) = 12) (h : ∀ Q' : xQ, (∀ S' m', Lp P d n0 Q S' m' → Q' none (wM P S' m')) → Cd 15 138 [.ref 0, .int n, .int s] (wM P S m) Q') : Lp P d n0 Q S m := by
  refine lp_step t.2.1 nc.k90 hF (fun Q' hQ => ?_)
  have hd := nc.deep
  obtain ⟨e1, e2⟩ := t.d1 nc.k90
  have eat : n = mAt m (ix (mDeep m - 1)) := by rw [e1]; exact t.2.2.2.1.symm
  have est : s = mStage m (ix (mDeep m - 1)) := by rw [e1]; exact t.2.2.2.2.1.symm
  have hn := nc.nin
  rw [eat, est] at h
  rw [eat] at hn hc
  refine Cd.up (show 16 ≤ d by omega) ?_
  refine Cd.mk cdX8_step 3 4 0 [(0, .ref 0)] rfl rfl rfl rfl 0 ?_
  refine Ev.go (Cd.mono 15) [] 100 ?_
  refine And.intro e2 ?_
  refine And.intro e2 ?_
  refine And.intro hn ?_
  refine And.intro (fun hx => absurd (hc.symm.trans hx) (by decide)) (fun _ => ?_)
  refine And.intro (fun hx => absurd (hc.symm.trans hx) (by decide)) (fun _ => ?_)
  refine And.intro (fun hx => absurd (hc.symm.trans hx) (by decide)) (fun _ => ?_)
  refine And.intro (fun hx => absurd (hc.symm.trans hx) (by decide)) (fun _ => ?_)
  refine And.intro (fun hx => absurd (hc.symm.trans hx) (by decide)) (fun _ => ?_)
  refine And.intro (fun hx => absurd (hc.symm.trans hx) (by decide)) (fun _ => ?_)
  refine And.intro (fun hx => absurd (hc.symm.trans hx) (by decide)) (fun _ => ?_)
  refine And.intro (fun hx => absurd (hc.symm.trans hx) (by decide)) (fun _ => ?_)
  refine And.intro (fun hx => absurd (hc.symm.trans hx) (by decide)) (fun _ => ?_)
  refine And.intro (fun hx => absurd (hc.symm.trans hx) (by decide)) (fun _ => ?_)
  refine And.intro (fun hx => absurd (hc.symm.trans hx) (by decide)) (fun _ => ?_)
  refine And.intro (fun hx => absurd (hc.symm.trans hx) (by decide)) (fun _ => ?_)
  refine And.intro (fun _ => ?_) (fun hx => absurd hc hx)
  exact h _ (fun S' m' q => hQ S' m' q)
set_option maxRecDepth 100000 in
set_option maxHeartbeats 1000000 in
theorem lp_step13 {s b : Int32} {S : SS} {m : MS} (nc : NC P G E d n0 Q k m0 n) (t : TOP k m0 n s b S m) (hF : rF S.2.2 = 0) (hc : pC P (ix n) = 13) (h : ∀ Q' : xQ, (∀ S' m', Lp P d n0 Q S' m' → Q' none (wM P S' m')) → Cd 15 135 [.ref 0, .int n, .int s] (wM P S m) Q') : Lp P d n0 Q S m := by
  refine lp_step t.2.1 nc.k90 hF (fun Q' hQ => ?_)
  have hd := nc.deep
  obtain ⟨e1, e2⟩ := t.d1 nc.k90
  have eat : n = mAt m (ix (mDeep m - 1)) := by rw [e1]; exact t.2.2.2.1.symm
  have est : s = mStage m (ix (mDeep m - 1)) := by rw [e1]; exact t.2.2.2.2.1.symm
  have hn := nc.nin
  rw [eat, est] at h
  rw [eat] at hn hc
  refine Cd.up (show 16 ≤ d by omega) ?_
  refine Cd.mk cdX8_step 3 4 0 [(0, .ref 0)] rfl rfl rfl rfl 0 ?_
  refine Ev.go (Cd.mono 15) [] 100 ?_
  refine And.intro e2 ?_
  refine And.intro e2 ?_
  refine And.intro hn ?_
  refine And.intro (fun hx => absurd (hc.symm.trans hx) (by decide)) (fun _ => ?_)
  refine And.intro (fun hx => absurd (hc.symm.trans hx) (by decide)) (fun _ => ?_)
  refine And.intro (fun hx => absurd (hc.symm.trans hx) (by decide)) (fun _ => ?_)
  refine And.intro (fun hx => absurd (hc.symm.trans hx) (by decide)) (fun _ => ?_)
  refine And.intro (fun hx => absurd (hc.symm.trans hx) (by decide)) (fun _ => ?_)
  refine And.intro (fun hx => absurd (hc.symm.trans hx) (by decide)) (fun _ => ?_)
  refine And.intro (fun hx => absurd (hc.symm.trans hx) (by decide)) (fun _ => ?_)
  refine And.intro (fun hx => absurd (hc.symm.trans hx) (by decide)) (fun _ => ?_)
  refine And.intro (fun hx => absurd (hc.symm.trans hx) (by decide)) (fun _ => ?_)
  refine And.intro (fun hx => absurd (hc.symm.trans hx) (by decide)) (fun _ => ?_)
  refine And.intro (fun hx => absurd (hc.symm.trans hx) (by decide)) (fun _ => ?_)
  refine And.intro (fun hx => absurd (hc.symm.trans hx) (by decide)) (fun _ => ?_)
  refine And.intro (fun hx => absurd (hc.symm.trans hx) (by decide)) (fun _ => ?_)
  refine And.intro (fun _ => ?_) (fun hx => absurd hc hx)
  exact h _ (fun S' m' q => hQ S' m' q)
set_option maxRecDepth 100000 in
set_option maxHeartbeats 1000000 in
theorem lp_step14 {s b : Int32} {S : SS} {m : MS} (nc : NC P G E d n0 Q k m0 n) (t : TOP k m0 n s b S m) (hF : rF S.2.2 = 0) (hc : pC P (ix n) = 14) (h : ∀ Q' : xQ, (∀ S' m', Lp P d n0 Q S' m' → Q' none (wM P S' m')) → Cd 15 135 [.ref 0, .int n, .int s] (wM P S m) Q') : Lp P d n0 Q S m := by
  refine lp_step t.2.1 nc.k90 hF (fun Q' hQ => ?_)
  have hd := nc.deep
  obtain ⟨e1, e2⟩ := t.d1 nc.k90
  have eat : n = mAt m (ix (mDeep m - 1)) := by rw [e1]; exact t.2.2.2.1.symm
  have est : s = mStage m (ix (mDeep m - 1)) := by rw [e1]; exact t.2.2.2.2.1.symm
  have hn := nc.nin
  rw [eat, est] at h
  rw [eat] at hn hc
  refine Cd.up (show 16 ≤ d by omega) ?_
  refine Cd.mk cdX8_step 3 4 0 [(0, .ref 0)] rfl rfl rfl rfl 0 ?_
  refine Ev.go (Cd.mono 15) [] 100 ?_
  refine And.intro e2 ?_
  refine And.intro e2 ?_
  refine And.intro hn ?_
  refine And.intro (fun hx => absurd (hc.symm.trans hx) (by decide)) (fun _ => ?_)
  refine And.intro (fun hx => absurd (hc.symm.trans hx) (by decide)) (fun _ => ?_)
  refine And.intro (fun hx => absurd (hc.symm.trans hx) (by decide)) (fun _ => ?_)
  refine And.intro (fun hx => absurd (hc.symm.trans hx) (by decide)) (fun _ => ?_)
  refine And.intro (fun hx => absurd (hc.symm.trans hx) (by decide)) (fun _ => ?_)
  refine And.intro (fun hx => absurd (hc.symm.trans hx) (by decide)) (fun _ => ?_)
  refine And.intro (fun hx => absurd (hc.symm.trans hx) (by decide)) (fun _ => ?_)
  refine And.intro (fun hx => absurd (hc.symm.trans hx) (by decide)) (fun _ => ?_)
  refine And.intro (fun hx => absurd (hc.symm.trans hx) (by decide)) (fun _ => ?_)
  refine And.intro (fun hx => absurd (hc.symm.trans hx) (by decide)) (fun _ => ?_)
  refine And.intro (fun hx => absurd (hc.symm.trans hx) (by decide)) (fun _ => ?_)
  refine And.intro (fun hx => absurd (hc.symm.trans hx) (by decide)) (fun _ => ?_)
  refine And.intro (fun hx => absurd (hc.symm.trans hx) (by decide)) (fun _ => ?_)
  refine And.intro (fun hx => absurd (hc.symm.trans hx) (by decide)) (fun _ => ?_)
  refine And.intro (fun _ => ?_) (fun hx => absurd hc hx)
  exact h _ (fun S' m' q => hQ S' m' q)
set_option maxRecDepth 100000 in
set_option maxHeartbeats 1000000 in
theorem lp_step15 {s b : Int32} {S : SS} {m : MS} (nc : NC P G E d n0 Q k m0 n) (t : TOP k m0 n s b S m) (hF : rF S.2.2 = 0) (hc : pC P (ix n) = 15) (h : ∀ Q' : xQ, (∀ S' m', Lp P d n0 Q S' m' → Q' none (wM P S' m')) → Cd 15 135 [.ref 0, .int n, .int s] (wM P S m) Q') : Lp P d n0 Q S m := by
  refine lp_step t.2.1 nc.k90 hF (fun Q' hQ => ?_)
  have hd := nc.deep
  obtain ⟨e1, e2⟩ := t.d1 nc.k90
  have eat : n = mAt m (ix (mDeep m - 1)) := by rw [e1]; exact t.2.2.2.1.symm
  have est : s = mStage m (ix (mDeep m - 1)) := by rw [e1]; exact t.2.2.2.2.1.symm
  have hn := nc.nin
  rw [eat, est] at h
  rw [eat] at hn hc
  refine Cd.up (show 16 ≤ d by omega) ?_
  refine Cd.mk cdX8_step 3 4 0 [(0, .ref 0)] rfl rfl rfl rfl 0 ?_
  refine Ev.go (Cd.mono 15) [] 100 ?_
  refine And.intro e2 ?_
  refine And.intro e2 ?_
  refine And.intro hn ?_
  refine And.intro (fun hx => absurd (hc.symm.trans hx) (by decide)) (fun _ => ?_)
  refine And.intro (fun hx => absurd (hc.symm.trans hx) (by decide)) (fun _ => ?_)
  refine And.intro (fun hx => absurd (hc.symm.trans hx) (by decide)) (fun _ => ?_)
  refine And.intro (fun hx => absurd (hc.symm.trans hx) (by decide)) (fun _ => ?_)
  refine And.intro (fun hx => absurd (hc.symm.trans hx) (by decide)) (fun _ => ?_)
  refine And.intro (fun hx => absurd (hc.symm.trans hx) (by decide)) (fun _ => ?_)
  refine And.intro (fun hx => absurd (hc.symm.trans hx) (by decide)) (fun _ => ?_)
  refine And.intro (fun hx => absurd (hc.symm.trans hx) (by decide)) (fun _ => ?_)
  refine And.intro (fun hx => absurd (hc.symm.trans hx) (by decide)) (fun _ => ?_)
  refine And.intro (fun hx => absurd (hc.symm.trans hx) (by decide)) (fun _ => ?_)
  refine And.intro (fun hx => absurd (hc.symm.trans hx) (by decide)) (fun _ => ?_)
  refine And.intro (fun hx => absurd (hc.symm.trans hx) (by decide)) (fun _ => ?_)
  refine And.intro (fun hx => absurd (hc.symm.trans hx) (by decide)) (fun _ => ?_)
  refine And.intro (fun hx => absurd (hc.symm.trans hx) (by decide)) (fun _ => ?_)
  refine And.intro (fun hx => absurd (hc.symm.trans hx) (by decide)) (fun _ => ?_)
  refine And.intro (fun _ => ?_) (fun hx => absurd hc hx)
  exact h _ (fun S' m' q => hQ S' m' q)
set_option maxRecDepth 100000 in
set_option maxHeartbeats 1000000 in
theorem lp_step16 {s b : Int32} {S : SS} {m : MS} (nc : NC P G E d n0 Q k m0 n) (t : TOP k m0 n s b S m) (hF : rF S.2.2 = 0) (hc : pC P (ix n) = 16) (h : ∀ Q' : xQ, (∀ S' m', Lp P d n0 Q S' m' → Q' none (wM P S' m')) → Cd 15 135 [.ref 0, .int n, .int s] (wM P S m) Q') : Lp P d n0 Q S m := by
  refine lp_step t.2.1 nc.k90 hF (fun Q' hQ => ?_)
  have hd := nc.deep
  obtain ⟨e1, e2⟩ := t.d1 nc.k90
  have eat : n = mAt m (ix (mDeep m - 1)) := by rw [e1]; exact t.2.2.2.1.symm
  have est : s = mStage m (ix (mDeep m - 1)) := by rw [e1]; exact t.2.2.2.2.1.symm
  have hn := nc.nin
  rw [eat, est] at h
  rw [eat] at hn hc
  refine Cd.up (show 16 ≤ d by omega) ?_
  refine Cd.mk cdX8_step 3 4 0 [(0, .ref 0)] rfl rfl rfl rfl 0 ?_
  refine Ev.go (Cd.mono 15) [] 100 ?_
  refine And.intro e2 ?_
  refine And.intro e2 ?_
  refine And.intro hn ?_
  refine And.intro (fun hx => absurd (hc.symm.trans hx) (by decide)) (fun _ => ?_)
  refine And.intro (fun hx => absurd (hc.symm.trans hx) (by decide)) (fun _ => ?_)
  refine And.intro (fun hx => absurd (hc.symm.trans hx) (by decide)) (fun _ => ?_)
  refine And.intro (fun hx => absurd (hc.symm.trans hx) (by decide)) (fun _ => ?_)
  refine And.intro (fun hx => absurd (hc.symm.trans hx) (by decide)) (fun _ => ?_)
  refine And.intro (fun hx => absurd (hc.symm.trans hx) (by decide)) (fun _ => ?_)
  refine And.intro (fun hx => absurd (hc.symm.trans hx) (by decide)) (fun _ => ?_)
  refine And.intro (fun hx => absurd (hc.symm.trans hx) (by decide)) (fun _ => ?_)
  refine And.intro (fun hx => absurd (hc.symm.trans hx) (by decide)) (fun _ => ?_)
  refine And.intro (fun hx => absurd (hc.symm.trans hx) (by decide)) (fun _ => ?_)
  refine And.intro (fun hx => absurd (hc.symm.trans hx) (by decide)) (fun _ => ?_)
  refine And.intro (fun hx => absurd (hc.symm.trans hx) (by decide)) (fun _ => ?_)
  refine And.intro (fun hx => absurd (hc.symm.trans hx) (by decide)) (fun _ => ?_)
  refine And.intro (fun hx => absurd (hc.symm.trans hx) (by decide)) (fun _ => ?_)
  refine And.intro (fun hx => absurd (hc.symm.trans hx) (by decide)) (fun _ => ?_)
  refine And.intro (fun hx => absurd (hc.symm.trans hx) (by decide)) (fun _ => ?_)
  refine And.intro (fun _ => ?_) (fun hx => absurd hc hx)
  exact h _ (fun S' m' q => hQ S' m' q)
set_option maxRecDepth 100000 in
set_option maxHeartbeats 1000000 in
theorem lp_step17 {s b : Int32} {S : SS} {m : MS} (nc : NC P G E d n0 Q k m0 n) (t : TOP k m0 n s b S m) (hF : rF S.2.2 = 0) (hc : pC P (ix n) = 17) (h : ∀ Q' : xQ, (∀ S' m', Lp P d n0 Q S' m' → Q' none (wM P S' m')) → Cd 15 138 [.ref 0, .int n, .int s] (wM P S m) Q') : Lp P d n0 Q S m := by
  refine lp_step t.2.1 nc.k90 hF (fun Q' hQ => ?_)
  have hd := nc.deep
  obtain ⟨e1, e2⟩ := t.d1 nc.k90
  have eat : n = mAt m (ix (mDeep m - 1)) := by rw [e1]; exact t.2.2.2.1.symm
  have est : s = mStage m (ix (mDeep m - 1)) := by rw [e1]; exact t.2.2.2.2.1.symm
  have hn := nc.nin
  rw [eat, est] at h
  rw [eat] at hn hc
  refine Cd.up (show 16 ≤ d by omega) ?_
  refine Cd.mk cdX8_step 3 4 0 [(0, .ref 0)] rfl rfl rfl rfl 0 ?_
  refine Ev.go (Cd.mono 15) [] 100 ?_
  refine And.intro e2 ?_
  refine And.intro e2 ?_
  refine And.intro hn ?_
  refine And.intro (fun hx => absurd (hc.symm.trans hx) (by decide)) (fun _ => ?_)
  refine And.intro (fun hx => absurd (hc.symm.trans hx) (by decide)) (fun _ => ?_)
  refine And.intro (fun hx => absurd (hc.symm.trans hx) (by decide)) (fun _ => ?_)
  refine And.intro (fun hx => absurd (hc.symm.trans hx) (by decide)) (fun _ => ?_)
  refine And.intro (fun hx => absurd (hc.symm.trans hx) (by decide)) (fun _ => ?_)
  refine And.intro (fun hx => absurd (hc.symm.trans hx) (by decide)) (fun _ => ?_)
  refine And.intro (fun hx => absurd (hc.symm.trans hx) (by decide)) (fun _ => ?_)
  refine And.intro (fun hx => absurd (hc.symm.trans hx) (by decide)) (fun _ => ?_)
  refine And.intro (fun hx => absurd (hc.symm.trans hx) (by decide)) (fun _ => ?_)
  refine And.intro (fun hx => absurd (hc.symm.trans hx) (by decide)) (fun _ => ?_)
  refine And.intro (fun hx => absurd (hc.symm.trans hx) (by decide)) (fun _ => ?_)
  refine And.intro (fun hx => absurd (hc.symm.trans hx) (by decide)) (fun _ => ?_)
  refine And.intro (fun hx => absurd (hc.symm.trans hx) (by decide)) (fun _ => ?_)
  refine And.intro (fun hx => absurd (hc.symm.trans hx) (by decide)) (fun _ => ?_)
  refine And.intro (fun hx => absurd (hc.symm.trans hx) (by decide)) (fun _ => ?_)
  refine And.intro (fun hx => absurd (hc.symm.trans hx) (by decide)) (fun _ => ?_)
  refine And.intro (fun hx => absurd (hc.symm.trans hx) (by decide)) (fun _ => ?_)
  refine And.intro (fun _ => ?_) (fun hx => absurd hc hx)
  exact h _ (fun S' m' q => hQ S' m' q)
set_option maxRecDepth 100000 in
set_option maxHeartbeats 1000000 in
theorem lp_step18 {s b : Int32} {S : SS} {m : MS} (nc : NC P G E d n0 Q k m0 n) (t : TOP k m0 n s b S m) (hF : rF S.2.2 = 0) (hc : pC P (ix n) = 18) (h : ∀ Q' : xQ, (∀ S' m', Lp P d n0 Q S' m' → Q' none (wM P S' m')) → Cd 15 140 [.ref 0, .int n, .int s] (wM P S m) Q') : Lp P d n0 Q S m := by
  refine lp_step t.2.1 nc.k90 hF (fun Q' hQ => ?_)
  have hd := nc.deep
  obtain ⟨e1, e2⟩ := t.d1 nc.k90
  have eat : n = mAt m (ix (mDeep m - 1)) := by rw [e1]; exact t.2.2.2.1.symm
  have est : s = mStage m (ix (mDeep m - 1)) := by rw [e1]; exact t.2.2.2.2.1.symm
  have hn := nc.nin
  rw [eat, est] at h
  rw [eat] at hn hc
  refine Cd.up (show 16 ≤ d by omega) ?_
  refine Cd.mk cdX8_step 3 4 0 [(0, .ref 0)] rfl rfl rfl rfl 0 ?_
  refine Ev.go (Cd.mono 15) [] 100 ?_
  refine And.intro e2 ?_
  refine And.intro e2 ?_
  refine And.intro hn ?_
  refine And.intro (fun hx => absurd (hc.symm.trans hx) (by decide)) (fun _ => ?_)
  refine And.intro (fun hx => absurd (hc.symm.trans hx) (by decide)) (fun _ => ?_)
  refine And.intro (fun hx => absurd (hc.symm.trans hx) (by decide)) (fun _ => ?_)
  refine And.intro (fun hx => absurd (hc.symm.trans hx) (by decide)) (fun _ => ?_)
  refine And.intro (fun hx => absurd (hc.symm.trans hx) (by decide)) (fun _ => ?_)
  refine And.intro (fun hx => absurd (hc.symm.trans hx) (by decide)) (fun _ => ?_)
  refine And.intro (fun hx => absurd (hc.symm.trans hx) (by decide)) (fun _ => ?_)
  refine And.intro (fun hx => absurd (hc.symm.trans hx) (by decide)) (fun _ => ?_)
  refine And.intro (fun hx => absurd (hc.symm.trans hx) (by decide)) (fun _ => ?_)
  refine And.intro (fun hx => absurd (hc.symm.trans hx) (by decide)) (fun _ => ?_)
  refine And.intro (fun hx => absurd (hc.symm.trans hx) (by decide)) (fun _ => ?_)
  refine And.intro (fun hx => absurd (hc.symm.trans hx) (by decide)) (fun _ => ?_)
  refine And.intro (fun hx => absurd (hc.symm.trans hx) (by decide)) (fun _ => ?_)
  refine And.intro (fun hx => absurd (hc.symm.trans hx) (by decide)) (fun _ => ?_)
  refine And.intro (fun hx => absurd (hc.symm.trans hx) (by decide)) (fun _ => ?_)
  refine And.intro (fun hx => absurd (hc.symm.trans hx) (by decide)) (fun _ => ?_)
  refine And.intro (fun hx => absurd (hc.symm.trans hx) (by decide)) (fun _ => ?_)
  refine And.intro (fun hx => absurd (hc.symm.trans hx) (by decide)) (fun _ => ?_)
  refine And.intro (fun _ => ?_) (fun hx => absurd hc hx)
  exact h _ (fun S' m' q => hQ S' m' q)
set_option maxRecDepth 100000 in
set_option maxHeartbeats 1000000 in
theorem lp_step19 {s b : Int32} {S : SS} {m : MS} (nc : NC P G E d n0 Q k m0 n) (t : TOP k m0 n s b S m) (hF : rF S.2.2 = 0) (hc : pC P (ix n) = 19) (h : ∀ Q' : xQ, (∀ S' m', Lp P d n0 Q S' m' → Q' none (wM P S' m')) → Cd 15 140 [.ref 0, .int n, .int s] (wM P S m) Q') : Lp P d n0 Q S m := by
  refine lp_step t.2.1 nc.k90 hF (fun Q' hQ => ?_)
  have hd := nc.deep
  obtain ⟨e1, e2⟩ := t.d1 nc.k90
  have eat : n = mAt m (ix (mDeep m - 1)) := by rw [e1]; exact t.2.2.2.1.symm
  have est : s = mStage m (ix (mDeep m - 1)) := by rw [e1]; exact t.2.2.2.2.1.symm
  have hn := nc.nin
  rw [eat, est] at h
  rw [eat] at hn hc
  refine Cd.up (show 16 ≤ d by omega) ?_
  refine Cd.mk cdX8_step 3 4 0 [(0, .ref 0)] rfl rfl rfl rfl 0 ?_
  refine Ev.go (Cd.mono 15) [] 100 ?_
  refine And.intro e2 ?_
  refine And.intro e2 ?_
  refine And.intro hn ?_
  refine And.intro (fun hx => absurd (hc.symm.trans hx) (by decide)) (fun _ => ?_)
  refine And.intro (fun hx => absurd (hc.symm.trans hx) (by decide)) (fun _ => ?_)
  refine And.intro (fun hx => absurd (hc.symm.trans hx) (by decide)) (fun _ => ?_)
  refine And.intro (fun hx => absurd (hc.symm.trans hx) (by decide)) (fun _ => ?_)
  refine And.intro (fun hx => absurd (hc.symm.trans hx) (by decide)) (fun _ => ?_)
  refine And.intro (fun hx => absurd (hc.symm.trans hx) (by decide)) (fun _ => ?_)
  refine And.intro (fun hx => absurd (hc.symm.trans hx) (by decide)) (fun _ => ?_)
  refine And.intro (fun hx => absurd (hc.symm.trans hx) (by decide)) (fun _ => ?_)
  refine And.intro (fun hx => absurd (hc.symm.trans hx) (by decide)) (fun _ => ?_)
  refine And.intro (fun hx => absurd (hc.symm.trans hx) (by decide)) (fun _ => ?_)
  refine And.intro (fun hx => absurd (hc.symm.trans hx) (by decide)) (fun _ => ?_)
  refine And.intro (fun hx => absurd (hc.symm.trans hx) (by decide)) (fun _ => ?_)
  refine And.intro (fun hx => absurd (hc.symm.trans hx) (by decide)) (fun _ => ?_)
  refine And.intro (fun hx => absurd (hc.symm.trans hx) (by decide)) (fun _ => ?_)
  refine And.intro (fun hx => absurd (hc.symm.trans hx) (by decide)) (fun _ => ?_)
  refine And.intro (fun hx => absurd (hc.symm.trans hx) (by decide)) (fun _ => ?_)
  refine And.intro (fun hx => absurd (hc.symm.trans hx) (by decide)) (fun _ => ?_)
  refine And.intro (fun hx => absurd (hc.symm.trans hx) (by decide)) (fun _ => ?_)
  refine And.intro (fun hx => absurd (hc.symm.trans hx) (by decide)) (fun _ => ?_)
  refine And.intro (fun _ => ?_) (fun hx => absurd hc hx)
  exact h _ (fun S' m' q => hQ S' m' q)
set_option maxRecDepth 100000 in
set_option maxHeartbeats 1000000 in
theorem lp_step20 {s b : Int32} {S : SS} {m : MS} (nc : NC P G E d n0 Q k m0 n) (t : TOP k m0 n s b S m) (hF : rF S.2.2 = 0) (hc : pC P (ix n) = 20) (h : ∀ Q' : xQ, (∀ S' m', Lp P d n0 Q S' m' → Q' none (wM P S' m')) → Cd 15 130 [.ref 0, .int n, .int s] (wM P S m) Q') : Lp P d n0 Q S m := by
  refine lp_step t.2.1 nc.k90 hF (fun Q' hQ => ?_)
  have hd := nc.deep
  obtain ⟨e1, e2⟩ := t.d1 nc.k90
  have eat : n = mAt m (ix (mDeep m - 1)) := by rw [e1]; exact t.2.2.2.1.symm
  have est : s = mStage m (ix (mDeep m - 1)) := by rw [e1]; exact t.2.2.2.2.1.symm
  have hn := nc.nin
  rw [eat, est] at h
  rw [eat] at hn hc
  refine Cd.up (show 16 ≤ d by omega) ?_
  refine Cd.mk cdX8_step 3 4 0 [(0, .ref 0)] rfl rfl rfl rfl 0 ?_
  refine Ev.go (Cd.mono 15) [] 100 ?_
  refine And.intro e2 ?_
  refine And.intro e2 ?_
  refine And.intro hn ?_
  refine And.intro (fun hx => absurd (hc.symm.trans hx) (by decide)) (fun _ => ?_)
  refine And.intro (fun hx => absurd (hc.symm.trans hx) (by decide)) (fun _ => ?_)
  refine And.intro (fun hx => absurd (hc.symm.trans hx) (by decide)) (fun _ => ?_)
  refine And.intro (fun hx => absurd (hc.symm.trans hx) (by decide)) (fun _ => ?_)
  refine And.intro (fun hx => absurd (hc.symm.trans hx) (by decide)) (fun _ => ?_)
  refine And.intro (fun hx => absurd (hc.symm.trans hx) (by decide)) (fun _ => ?_)
  refine And.intro (fun hx => absurd (hc.symm.trans hx) (by decide)) (fun _ => ?_)
  refine And.intro (fun hx => absurd (hc.symm.trans hx) (by decide)) (fun _ => ?_)
  refine And.intro (fun hx => absurd (hc.symm.trans hx) (by decide)) (fun _ => ?_)
  refine And.intro (fun hx => absurd (hc.symm.trans hx) (by decide)) (fun _ => ?_)
  refine And.intro (fun hx => absurd (hc.symm.trans hx) (by decide)) (fun _ => ?_)
  refine And.intro (fun hx => absurd (hc.symm.trans hx) (by decide)) (fun _ => ?_)
  refine And.intro (fun hx => absurd (hc.symm.trans hx) (by decide)) (fun _ => ?_)
  refine And.intro (fun hx => absurd (hc.symm.trans hx) (by decide)) (fun _ => ?_)
  refine And.intro (fun hx => absurd (hc.symm.trans hx) (by decide)) (fun _ => ?_)
  refine And.intro (fun hx => absurd (hc.symm.trans hx) (by decide)) (fun _ => ?_)
  refine And.intro (fun hx => absurd (hc.symm.trans hx) (by decide)) (fun _ => ?_)
  refine And.intro (fun hx => absurd (hc.symm.trans hx) (by decide)) (fun _ => ?_)
  refine And.intro (fun hx => absurd (hc.symm.trans hx) (by decide)) (fun _ => ?_)
  refine And.intro (fun hx => absurd (hc.symm.trans hx) (by decide)) (fun _ => ?_)
  refine And.intro (fun _ => ?_) (fun hx => absurd hc hx)
  exact h _ (fun S' m' q => hQ S' m' q)
set_option maxRecDepth 100000 in
set_option maxHeartbeats 1000000 in
theorem lp_step21 {s b : Int32} {S : SS} {m : MS} (nc : NC P G E d n0 Q k m0 n) (t : TOP k m0 n s b S m) (hF : rF S.2.2 = 0) (hc : pC P (ix n) = 21) (h : ∀ Q' : xQ, (∀ S' m', Lp P d n0 Q S' m' → Q' none (wM P S' m')) → Cd 15 137 [.ref 0, .int n, .int s] (wM P S m) Q') : Lp P d n0 Q S m := by
  refine lp_step t.2.1 nc.k90 hF (fun Q' hQ => ?_)
  have hd := nc.deep
  obtain ⟨e1, e2⟩ := t.d1 nc.k90
  have eat : n = mAt m (ix (mDeep m - 1)) := by rw [e1]; exact t.2.2.2.1.symm
  have est : s = mStage m (ix (mDeep m - 1)) := by rw [e1]; exact t.2.2.2.2.1.symm
  have hn := nc.nin
  rw [eat, est] at h
  rw [eat] at hn hc
  refine Cd.up (show 16 ≤ d by omega) ?_
  refine Cd.mk cdX8_step 3 4 0 [(0, .ref 0)] rfl rfl rfl rfl 0 ?_
  refine Ev.go (Cd.mono 15) [] 100 ?_
  refine And.intro e2 ?_
  refine And.intro e2 ?_
  refine And.intro hn ?_
  refine And.intro (fun hx => absurd (hc.symm.trans hx) (by decide)) (fun _ => ?_)
  refine And.intro (fun hx => absurd (hc.symm.trans hx) (by decide)) (fun _ => ?_)
  refine And.intro (fun hx => absurd (hc.symm.trans hx) (by decide)) (fun _ => ?_)
  refine And.intro (fun hx => absurd (hc.symm.trans hx) (by decide)) (fun _ => ?_)
  refine And.intro (fun hx => absurd (hc.symm.trans hx) (by decide)) (fun _ => ?_)
  refine And.intro (fun hx => absurd (hc.symm.trans hx) (by decide)) (fun _ => ?_)
  refine And.intro (fun hx => absurd (hc.symm.trans hx) (by decide)) (fun _ => ?_)
  refine And.intro (fun hx => absurd (hc.symm.trans hx) (by decide)) (fun _ => ?_)
  refine And.intro (fun hx => absurd (hc.symm.trans hx) (by decide)) (fun _ => ?_)
  refine And.intro (fun hx => absurd (hc.symm.trans hx) (by decide)) (fun _ => ?_)
  refine And.intro (fun hx => absurd (hc.symm.trans hx) (by decide)) (fun _ => ?_)
  refine And.intro (fun hx => absurd (hc.symm.trans hx) (by decide)) (fun _ => ?_)
  refine And.intro (fun hx => absurd (hc.symm.trans hx) (by decide)) (fun _ => ?_)
  refine And.intro (fun hx => absurd (hc.symm.trans hx) (by decide)) (fun _ => ?_)
  refine And.intro (fun hx => absurd (hc.symm.trans hx) (by decide)) (fun _ => ?_)
  refine And.intro (fun hx => absurd (hc.symm.trans hx) (by decide)) (fun _ => ?_)
  refine And.intro (fun hx => absurd (hc.symm.trans hx) (by decide)) (fun _ => ?_)
  refine And.intro (fun hx => absurd (hc.symm.trans hx) (by decide)) (fun _ => ?_)
  refine And.intro (fun hx => absurd (hc.symm.trans hx) (by decide)) (fun _ => ?_)
  refine And.intro (fun hx => absurd (hc.symm.trans hx) (by decide)) (fun _ => ?_)
  refine And.intro (fun hx => absurd (hc.symm.trans hx) (by decide)) (fun _ => ?_)
  refine And.intro (fun _ => ?_) (fun hx => absurd hc hx)
  exact h _ (fun S' m' q => hQ S' m' q)
set_option maxRecDepth 100000 in
set_option maxHeartbeats 1000000 in
theorem lp_step22 {s b : Int32} {S : SS} {m : MS} (nc : NC P G E d n0 Q k m0 n) (t : TOP k m0 n s b S m) (hF : rF S.2.2 = 0) (hc : pC P (ix n) = 22) (h : ∀ Q' : xQ, (∀ S' m', Lp P d n0 Q S' m' → Q' none (wM P S' m')) → Cd 15 133 [.ref 0, .int n, .int s] (wM P S m) Q') : Lp P d n0 Q S m := by
  refine lp_step t.2.1 nc.k90 hF (fun Q' hQ => ?_)
  have hd := nc.deep
  obtain ⟨e1, e2⟩ := t.d1 nc.k90
  have eat : n = mAt m (ix (mDeep m - 1)) := by rw [e1]; exact t.2.2.2.1.symm
  have est : s = mStage m (ix (mDeep m - 1)) := by rw [e1]; exact t.2.2.2.2.1.symm
  have hn := nc.nin
  rw [eat, est] at h
  rw [eat] at hn hc
  refine Cd.up (show 16 ≤ d by omega) ?_
  refine Cd.mk cdX8_step 3 4 0 [(0, .ref 0)] rfl rfl rfl rfl 0 ?_
  refine Ev.go (Cd.mono 15) [] 100 ?_
  refine And.intro e2 ?_
  refine And.intro e2 ?_
  refine And.intro hn ?_
  refine And.intro (fun hx => absurd (hc.symm.trans hx) (by decide)) (fun _ => ?_)
  refine And.intro (fun hx => absurd (hc.symm.trans hx) (by decide)) (fun _ => ?_)
  refine And.intro (fun hx => absurd (hc.symm.trans hx) (by decide)) (fun _ => ?_)
  refine And.intro (fun hx => absurd (hc.symm.trans hx) (by decide)) (fun _ => ?_)
  refine And.intro (fun hx => absurd (hc.symm.trans hx) (by decide)) (fun _ => ?_)
  refine And.intro (fun hx => absurd (hc.symm.trans hx) (by decide)) (fun _ => ?_)
  refine And.intro (fun hx => absurd (hc.symm.trans hx) (by decide)) (fun _ => ?_)
  refine And.intro (fun hx => absurd (hc.symm.trans hx) (by decide)) (fun _ => ?_)
  refine And.intro (fun hx => absurd (hc.symm.trans hx) (by decide)) (fun _ => ?_)
  refine And.intro (fun hx => absurd (hc.symm.trans hx) (by decide)) (fun _ => ?_)
  refine And.intro (fun hx => absurd (hc.symm.trans hx) (by decide)) (fun _ => ?_)
  refine And.intro (fun hx => absurd (hc.symm.trans hx) (by decide)) (fun _ => ?_)
  refine And.intro (fun hx => absurd (hc.symm.trans hx) (by decide)) (fun _ => ?_)
  refine And.intro (fun hx => absurd (hc.symm.trans hx) (by decide)) (fun _ => ?_)
  refine And.intro (fun hx => absurd (hc.symm.trans hx) (by decide)) (fun _ => ?_)
  refine And.intro (fun hx => absurd (hc.symm.trans hx) (by decide)) (fun _ => ?_)
  refine And.intro (fun hx => absurd (hc.symm.trans hx) (by decide)) (fun _ => ?_)
  refine And.intro (fun hx => absurd (hc.symm.trans hx) (by decide)) (fun _ => ?_)
  refine And.intro (fun hx => absurd (hc.symm.trans hx) (by decide)) (fun _ => ?_)
  refine And.intro (fun hx => absurd (hc.symm.trans hx) (by decide)) (fun _ => ?_)
  refine And.intro (fun hx => absurd (hc.symm.trans hx) (by decide)) (fun _ => ?_)
  refine And.intro (fun hx => absurd (hc.symm.trans hx) (by decide)) (fun _ => ?_)
  refine And.intro (fun _ => ?_) (fun hx => absurd hc hx)
  exact h _ (fun S' m' q => hQ S' m' q)
set_option maxRecDepth 100000 in
set_option maxHeartbeats 1000000 in
theorem lp_step23 {s b : Int32} {S : SS} {m : MS} (nc : NC P G E d n0 Q k m0 n) (t : TOP k m0 n s b S m) (hF : rF S.2.2 = 0) (hc : pC P (ix n) = 23) (h : ∀ Q' : xQ, (∀ S' m', Lp P d n0 Q S' m' → Q' none (wM P S' m')) → Cd 15 143 [.ref 0, .int n, .int s] (wM P S m) Q') : Lp P d n0 Q S m := by
  refine lp_step t.2.1 nc.k90 hF (fun Q' hQ => ?_)
  have hd := nc.deep
  obtain ⟨e1, e2⟩ := t.d1 nc.k90
  have eat : n = mAt m (ix (mDeep m - 1)) := by rw [e1]; exact t.2.2.2.1.symm
  have est : s = mStage m (ix (mDeep m - 1)) := by rw [e1]; exact t.2.2.2.2.1.symm
  have hn := nc.nin
  rw [eat, est] at h
  rw [eat] at hn hc
  refine Cd.up (show 16 ≤ d by omega) ?_
  refine Cd.mk cdX8_step 3 4 0 [(0, .ref 0)] rfl rfl rfl rfl 0 ?_
  refine Ev.go (Cd.mono 15) [] 100 ?_
  refine And.intro e2 ?_
  refine And.intro e2 ?_
  refine And.intro hn ?_
  refine And.intro (fun hx => absurd (hc.symm.trans hx) (by decide)) (fun _ => ?_)
  refine And.intro (fun hx => absurd (hc.symm.trans hx) (by decide)) (fun _ => ?_)
  refine And.intro (fun hx => absurd (hc.symm.trans hx) (by decide)) (fun _ => ?_)
  refine And.intro (fun hx => absurd (hc.symm.trans hx) (by decide)) (fun _ => ?_)
  refine And.intro (fun hx => absurd (hc.symm.trans hx) (by decide)) (fun _ => ?_)
  refine And.intro (fun hx => absurd (hc.symm.trans hx) (by decide)) (fun _ => ?_)
  refine And.intro (fun hx => absurd (hc.symm.trans hx) (by decide)) (fun _ => ?_)
  refine And.intro (fun hx => absurd (hc.symm.trans hx) (by decide)) (fun _ => ?_)
  refine And.intro (fun hx => absurd (hc.symm.trans hx) (by decide)) (fun _ => ?_)
  refine And.intro (fun hx => absurd (hc.symm.trans hx) (by decide)) (fun _ => ?_)
  refine And.intro (fun hx => absurd (hc.symm.trans hx) (by decide)) (fun _ => ?_)
  refine And.intro (fun hx => absurd (hc.symm.trans hx) (by decide)) (fun _ => ?_)
  refine And.intro (fun hx => absurd (hc.symm.trans hx) (by decide)) (fun _ => ?_)
  refine And.intro (fun hx => absurd (hc.symm.trans hx) (by decide)) (fun _ => ?_)
  refine And.intro (fun hx => absurd (hc.symm.trans hx) (by decide)) (fun _ => ?_)
  refine And.intro (fun hx => absurd (hc.symm.trans hx) (by decide)) (fun _ => ?_)
  refine And.intro (fun hx => absurd (hc.symm.trans hx) (by decide)) (fun _ => ?_)
  refine And.intro (fun hx => absurd (hc.symm.trans hx) (by decide)) (fun _ => ?_)
  refine And.intro (fun hx => absurd (hc.symm.trans hx) (by decide)) (fun _ => ?_)
  refine And.intro (fun hx => absurd (hc.symm.trans hx) (by decide)) (fun _ => ?_)
  refine And.intro (fun hx => absurd (hc.symm.trans hx) (by decide)) (fun _ => ?_)
  refine And.intro (fun hx => absurd (hc.symm.trans hx) (by decide)) (fun _ => ?_)
  refine And.intro (fun hx => absurd (hc.symm.trans hx) (by decide)) (fun _ => ?_)
  refine And.intro (fun _ => ?_) (fun hx => absurd hc hx)
  exact h _ (fun S' m' q => hQ S' m' q)
set_option maxRecDepth 100000 in
set_option maxHeartbeats 1000000 in
theorem lp_step24 {s b : Int32} {S : SS} {m : MS} (nc : NC P G E d n0 Q k m0 n) (t : TOP k m0 n s b S m) (hF : rF S.2.2 = 0) (hc : pC P (ix n) = 24) (h : ∀ Q' : xQ, (∀ S' m', Lp P d n0 Q S' m' → Q' none (wM P S' m')) → Cd 15 143 [.ref 0, .int n, .int s] (wM P S m) Q') : Lp P d n0 Q S m := by
  refine lp_step t.2.1 nc.k90 hF (fun Q' hQ => ?_)
  have hd := nc.deep
  obtain ⟨e1, e2⟩ := t.d1 nc.k90
  have eat : n = mAt m (ix (mDeep m - 1)) := by rw [e1]; exact t.2.2.2.1.symm
  have est : s = mStage m (ix (mDeep m - 1)) := by rw [e1]; exact t.2.2.2.2.1.symm
  have hn := nc.nin
  rw [eat, est] at h
  rw [eat] at hn hc
  refine Cd.up (show 16 ≤ d by omega) ?_
  refine Cd.mk cdX8_step 3 4 0 [(0, .ref 0)] rfl rfl rfl rfl 0 ?_
  refine Ev.go (Cd.mono 15) [] 100 ?_
  refine And.intro e2 ?_
  refine And.intro e2 ?_
  refine And.intro hn ?_
  refine And.intro (fun hx => absurd (hc.symm.trans hx) (by decide)) (fun _ => ?_)
  refine And.intro (fun hx => absurd (hc.symm.trans hx) (by decide)) (fun _ => ?_)
  refine And.intro (fun hx => absurd (hc.symm.trans hx) (by decide)) (fun _ => ?_)
  refine And.intro (fun hx => absurd (hc.symm.trans hx) (by decide)) (fun _ => ?_)
  refine And.intro (fun hx => absurd (hc.symm.trans hx) (by decide)) (fun _ => ?_)
  refine And.intro (fun hx => absurd (hc.symm.trans hx) (by decide)) (fun _ => ?_)
  refine And.intro (fun hx => absurd (hc.symm.trans hx) (by decide)) (fun _ => ?_)
  refine And.intro (fun hx => absurd (hc.symm.trans hx) (by decide)) (fun _ => ?_)
  refine And.intro (fun hx => absurd (hc.symm.trans hx) (by decide)) (fun _ => ?_)
  refine And.intro (fun hx => absurd (hc.symm.trans hx) (by decide)) (fun _ => ?_)
  refine And.intro (fun hx => absurd (hc.symm.trans hx) (by decide)) (fun _ => ?_)
  refine And.intro (fun hx => absurd (hc.symm.trans hx) (by decide)) (fun _ => ?_)
  refine And.intro (fun hx => absurd (hc.symm.trans hx) (by decide)) (fun _ => ?_)
  refine And.intro (fun hx => absurd (hc.symm.trans hx) (by decide)) (fun _ => ?_)
  refine And.intro (fun hx => absurd (hc.symm.trans hx) (by decide)) (fun _ => ?_)
  refine And.intro (fun hx => absurd (hc.symm.trans hx) (by decide)) (fun _ => ?_)
  refine And.intro (fun hx => absurd (hc.symm.trans hx) (by decide)) (fun _ => ?_)
  refine And.intro (fun hx => absurd (hc.symm.trans hx) (by decide)) (fun _ => ?_)
  refine And.intro (fun hx => absurd (hc.symm.trans hx) (by decide)) (fun _ => ?_)
  refine And.intro (fun hx => absurd (hc.symm.trans hx) (by decide)) (fun _ => ?_)
  refine And.intro (fun hx => absurd (hc.symm.trans hx) (by decide)) (fun _ => ?_)
  refine And.intro (fun hx => absurd (hc.symm.trans hx) (by decide)) (fun _ => ?_)
  refine And.intro (fun hx => absurd (hc.symm.trans hx) (by decide)) (fun _ => ?_)
  refine And.intro (fun hx => absurd (hc.symm.trans hx) (by decide)) (fun _ => ?_)
  refine And.intro (fun _ => ?_) (fun hx => absurd hc hx)
  exact h _ (fun S' m' q => hQ S' m' q)
set_option maxRecDepth 100000 in
set_option maxHeartbeats 1000000 in
theorem lp_step25 {s b : Int32} {S : SS} {m : MS} (nc : NC P G E d n0 Q k m0 n) (t : TOP k m0 n s b S m) (hF : rF S.2.2 = 0) (hc : pC P (ix n) = 25) (h : ∀ Q' : xQ, (∀ S' m', Lp P d n0 Q S' m' → Q' none (wM P S' m')) → Cd 15 143 [.ref 0, .int n, .int s] (wM P S m) Q') : Lp P d n0 Q S m := by
  refine lp_step t.2.1 nc.k90 hF (fun Q' hQ => ?_)
  have hd := nc.deep
  obtain ⟨e1, e2⟩ := t.d1 nc.k90
  have eat : n = mAt m (ix (mDeep m - 1)) := by rw [e1]; exact t.2.2.2.1.symm
  have est : s = mStage m (ix (mDeep m - 1)) := by rw [e1]; exact t.2.2.2.2.1.symm
  have hn := nc.nin
  rw [eat, est] at h
  rw [eat] at hn hc
  refine Cd.up (show 16 ≤ d by omega) ?_
  refine Cd.mk cdX8_step 3 4 0 [(0, .ref 0)] rfl rfl rfl rfl 0 ?_
  refine Ev.go (Cd.mono 15) [] 100 ?_
  refine And.intro e2 ?_
  refine And.intro e2 ?_
  refine And.intro hn ?_
  refine And.intro (fun hx => absurd (hc.symm.trans hx) (by decide)) (fun _ => ?_)
  refine And.intro (fun hx => absurd (hc.symm.trans hx) (by decide)) (fun _ => ?_)
  refine And.intro (fun hx => absurd (hc.symm.trans hx) (by decide)) (fun _ => ?_)
  refine And.intro (fun hx => absurd (hc.symm.trans hx) (by decide)) (fun _ => ?_)
  refine And.intro (fun hx => absurd (hc.symm.trans hx) (by decide)) (fun _ => ?_)
  refine And.intro (fun hx => absurd (hc.symm.trans hx) (by decide)) (fun _ => ?_)
  refine And.intro (fun hx => absurd (hc.symm.trans hx) (by decide)) (fun _ => ?_)
  refine And.intro (fun hx => absurd (hc.symm.trans hx) (by decide)) (fun _ => ?_)
  refine And.intro (fun hx => absurd (hc.symm.trans hx) (by decide)) (fun _ => ?_)
  refine And.intro (fun hx => absurd (hc.symm.trans hx) (by decide)) (fun _ => ?_)
  refine And.intro (fun hx => absurd (hc.symm.trans hx) (by decide)) (fun _ => ?_)
  refine And.intro (fun hx => absurd (hc.symm.trans hx) (by decide)) (fun _ => ?_)
  refine And.intro (fun hx => absurd (hc.symm.trans hx) (by decide)) (fun _ => ?_)
  refine And.intro (fun hx => absurd (hc.symm.trans hx) (by decide)) (fun _ => ?_)
  refine And.intro (fun hx => absurd (hc.symm.trans hx) (by decide)) (fun _ => ?_)
  refine And.intro (fun hx => absurd (hc.symm.trans hx) (by decide)) (fun _ => ?_)
  refine And.intro (fun hx => absurd (hc.symm.trans hx) (by decide)) (fun _ => ?_)
  refine And.intro (fun hx => absurd (hc.symm.trans hx) (by decide)) (fun _ => ?_)
  refine And.intro (fun hx => absurd (hc.symm.trans hx) (by decide)) (fun _ => ?_)
  refine And.intro (fun hx => absurd (hc.symm.trans hx) (by decide)) (fun _ => ?_)
  refine And.intro (fun hx => absurd (hc.symm.trans hx) (by decide)) (fun _ => ?_)
  refine And.intro (fun hx => absurd (hc.symm.trans hx) (by decide)) (fun _ => ?_)
  refine And.intro (fun hx => absurd (hc.symm.trans hx) (by decide)) (fun _ => ?_)
  refine And.intro (fun hx => absurd (hc.symm.trans hx) (by decide)) (fun _ => ?_)
  refine And.intro (fun hx => absurd (hc.symm.trans hx) (by decide)) (fun _ => ?_)
  refine And.intro (fun _ => ?_) (fun hx => absurd hc hx)
  exact h _ (fun S' m' q => hQ S' m' q)
set_option maxRecDepth 100000 in
set_option maxHeartbeats 1000000 in
theorem lp_step26 {s b : Int32} {S : SS} {m : MS} (nc : NC P G E d n0 Q k m0 n) (t : TOP k m0 n s b S m) (hF : rF S.2.2 = 0) (hc : pC P (ix n) = 26) (h : ∀ Q' : xQ, (∀ S' m', Lp P d n0 Q S' m' → Q' none (wM P S' m')) → Cd 15 141 [.ref 0, .int n, .int s] (wM P S m) Q') : Lp P d n0 Q S m := by
  refine lp_step t.2.1 nc.k90 hF (fun Q' hQ => ?_)
  have hd := nc.deep
  obtain ⟨e1, e2⟩ := t.d1 nc.k90
  have eat : n = mAt m (ix (mDeep m - 1)) := by rw [e1]; exact t.2.2.2.1.symm
  have est : s = mStage m (ix (mDeep m - 1)) := by rw [e1]; exact t.2.2.2.2.1.symm
  have hn := nc.nin
  rw [eat, est] at h
  rw [eat] at hn hc
  refine Cd.up (show 16 ≤ d by omega) ?_
  refine Cd.mk cdX8_step 3 4 0 [(0, .ref 0)] rfl rfl rfl rfl 0 ?_
  refine Ev.go (Cd.mono 15) [] 100 ?_
  refine And.intro e2 ?_
  refine And.intro e2 ?_
  refine And.intro hn ?_
  refine And.intro (fun hx => absurd (hc.symm.trans hx) (by decide)) (fun _ => ?_)
  refine And.intro (fun hx => absurd (hc.symm.trans hx) (by decide)) (fun _ => ?_)
  refine And.intro (fun hx => absurd (hc.symm.trans hx) (by decide)) (fun _ => ?_)
  refine And.intro (fun hx => absurd (hc.symm.trans hx) (by decide)) (fun _ => ?_)
  refine And.intro (fun hx => absurd (hc.symm.trans hx) (by decide)) (fun _ => ?_)
  refine And.intro (fun hx => absurd (hc.symm.trans hx) (by decide)) (fun _ => ?_)
  refine And.intro (fun hx => absurd (hc.symm.trans hx) (by decide)) (fun _ => ?_)
  refine And.intro (fun hx => absurd (hc.symm.trans hx) (by decide)) (fun _ => ?_)
  refine And.intro (fun hx => absurd (hc.symm.trans hx) (by decide)) (fun _ => ?_)
  refine And.intro (fun hx => absurd (hc.symm.trans hx) (by decide)) (fun _ => ?_)
  refine And.intro (fun hx => absurd (hc.symm.trans hx) (by decide)) (fun _ => ?_)
  refine And.intro (fun hx => absurd (hc.symm.trans hx) (by decide)) (fun _ => ?_)
  refine And.intro (fun hx => absurd (hc.symm.trans hx) (by decide)) (fun _ => ?_)
  refine And.intro (fun hx => absurd (hc.symm.trans hx) (by decide)) (fun _ => ?_)
  refine And.intro (fun hx => absurd (hc.symm.trans hx) (by decide)) (fun _ => ?_)
  refine And.intro (fun hx => absurd (hc.symm.trans hx) (by decide)) (fun _ => ?_)
  refine And.intro (fun hx => absurd (hc.symm.trans hx) (by decide)) (fun _ => ?_)
  refine And.intro (fun hx => absurd (hc.symm.trans hx) (by decide)) (fun _ => ?_)
  refine And.intro (fun hx => absurd (hc.symm.trans hx) (by decide)) (fun _ => ?_)
  refine And.intro (fun hx => absurd (hc.symm.trans hx) (by decide)) (fun _ => ?_)
  refine And.intro (fun hx => absurd (hc.symm.trans hx) (by decide)) (fun _ => ?_)
  refine And.intro (fun hx => absurd (hc.symm.trans hx) (by decide)) (fun _ => ?_)
  refine And.intro (fun hx => absurd (hc.symm.trans hx) (by decide)) (fun _ => ?_)
  refine And.intro (fun hx => absurd (hc.symm.trans hx) (by decide)) (fun _ => ?_)
  refine And.intro (fun hx => absurd (hc.symm.trans hx) (by decide)) (fun _ => ?_)
  refine And.intro (fun hx => absurd (hc.symm.trans hx) (by decide)) (fun _ => ?_)
  refine And.intro (fun _ => ?_) (fun hx => absurd hc hx)
  exact h _ (fun S' m' q => hQ S' m' q)
end STEP
