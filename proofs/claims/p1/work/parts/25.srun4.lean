/-! THE LAW RUN BY THE KERNEL: station -/
theorem sr_op11_10 : sm_run s_no sc_meth 40000 (s_env1 2147483676 2147483678 2147483654 2147483654 2147483659 2147483659) (271, 18, sc_l18, sKL, []) [] sh0 = true := by decide +kernel
theorem sr_op11_11 : sm_run s_no sc_meth 40000 (s_env1 2147483679 2147483681 2147483654 2147483654 2147483659 2147483659) (271, 18, sc_l18, sKL, []) [] sh0 = true := by decide +kernel
theorem sr_op11_12 : sm_run s_no sc_meth 40000 (s_env1 2147483682 2147483684 2147483654 2147483654 2147483659 2147483659) (271, 18, sc_l18, sKL, []) [] sh0 = true := by decide +kernel
theorem sr_op11_13 : sm_run s_no sc_meth 40000 (s_env1 2147483685 2147483687 2147483654 2147483654 2147483659 2147483659) (271, 18, sc_l18, sKL, []) [] sh0 = true := by decide +kernel
theorem sr_op11_14 : sm_run s_no sc_meth 40000 (s_env1 2147483688 2147483690 2147483654 2147483654 2147483659 2147483659) (271, 18, sc_l18, sKL, []) [] sh0 = true := by decide +kernel
