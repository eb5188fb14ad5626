theorem dX11_keepDraft_66 : decode cX11_keepDraft 66 = .ok (.aload_n 0, 1) := by decide +kernel
theorem dX11_keepDraft_67 : decode cX11_keepDraft 67 = .ok (.getfield 13, 3) := by decide +kernel
theorem dX11_keepDraft_70 : decode cX11_keepDraft 70 = .ok (.iload_n 1, 1) := by decide +kernel
theorem dX11_keepDraft_71 : decode cX11_keepDraft 71 = .ok (.aload_n 0, 1) := by decide +kernel
theorem dX11_keepDraft_72 : decode cX11_keepDraft 72 = .ok (.getfield 23, 3) := by decide +kernel
theorem dX11_keepDraft_75 : decode cX11_keepDraft 75 = .ok (.iload_n 1, 1) := by decide +kernel
theorem dX11_keepDraft_76 : decode cX11_keepDraft 76 = .ok (.iaload, 1) := by decide +kernel
theorem dX11_keepDraft_77 : decode cX11_keepDraft 77 = .ok (.iastore, 1) := by decide +kernel
theorem dX11_keepDraft_78 : decode cX11_keepDraft 78 = .ok (.iinc 1 1, 3) := by decide +kernel
theorem dX11_keepDraft_81 : decode cX11_keepDraft 81 = .ok (.goto (-21), 3) := by decide +kernel
