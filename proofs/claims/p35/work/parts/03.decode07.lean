theorem dL_law_1788 : decode cL_law 1788 = .ok (.aload_n 2, 1) := by decide +kernel
theorem dL_law_1789 : decode cL_law 1789 = .ok (.aload_n 3, 1) := by decide +kernel
theorem dL_law_1790 : decode cL_law 1790 = .ok (.aload 4, 2) := by decide +kernel
theorem dL_law_1792 : decode cL_law 1792 = .ok (.aload 6, 2) := by decide +kernel
theorem dL_law_1794 : decode cL_law 1794 = .ok (.aload 7, 2) := by decide +kernel
theorem dL_law_1796 : decode cL_law 1796 = .ok (.invokestatic 231, 3) := by decide +kernel
theorem dL_law_1799 : decode cL_law 1799 = .ok (.iload 13, 2) := by decide +kernel
theorem dL_law_1801 : decode cL_law 1801 = .ok (.ifCond .eq 40, 3) := by decide +kernel
theorem dL_law_1804 : decode cL_law 1804 = .ok (.iload 14, 2) := by decide +kernel
theorem dL_law_1806 : decode cL_law 1806 = .ok (.iconst 5, 1) := by decide +kernel
theorem dL_law_1807 : decode cL_law 1807 = .ok (.irem, 1) := by decide +kernel
theorem dL_law_1808 : decode cL_law 1808 = .ok (.iconst 4, 1) := by decide +kernel
theorem dL_law_1809 : decode cL_law 1809 = .ok (.if_icmp .lt 28, 3) := by decide +kernel
theorem dL_law_1812 : decode cL_law 1812 = .ok (.aload_n 1, 1) := by decide +kernel
theorem dL_law_1813 : decode cL_law 1813 = .ok (.aload_n 2, 1) := by decide +kernel
theorem dL_law_1814 : decode cL_law 1814 = .ok (.aload_n 3, 1) := by decide +kernel
theorem dL_law_1815 : decode cL_law 1815 = .ok (.aload 4, 2) := by decide +kernel
theorem dL_law_1817 : decode cL_law 1817 = .ok (.aload 5, 2) := by decide +kernel
theorem dL_law_1819 : decode cL_law 1819 = .ok (.aload 6, 2) := by decide +kernel
theorem dL_law_1821 : decode cL_law 1821 = .ok (.aload 8, 2) := by decide +kernel
theorem dL_law_1823 : decode cL_law 1823 = .ok (.aload 9, 2) := by decide +kernel
theorem dL_law_1825 : decode cL_law 1825 = .ok (.aload 10, 2) := by decide +kernel
theorem dL_law_1827 : decode cL_law 1827 = .ok (.aload 11, 2) := by decide +kernel
theorem dL_law_1829 : decode cL_law 1829 = .ok (.iload 17, 2) := by decide +kernel
theorem dL_law_1831 : decode cL_law 1831 = .ok (.invokestatic 180, 3) := by decide +kernel
theorem dL_law_1834 : decode cL_law 1834 = .ok (.ifCond .eq 7, 3) := by decide +kernel
theorem dL_law_1837 : decode cL_law 1837 = .ok (.iconst 1, 1) := by decide +kernel
theorem dL_law_1838 : decode cL_law 1838 = .ok (.goto 4, 3) := by decide +kernel
theorem dL_law_1841 : decode cL_law 1841 = .ok (.iconst 0, 1) := by decide +kernel
theorem dL_law_1842 : decode cL_law 1842 = .ok (.istore 13, 2) := by decide +kernel
theorem dL_law_1844 : decode cL_law 1844 = .ok (.iinc 14 1, 3) := by decide +kernel
theorem dL_law_1847 : decode cL_law 1847 = .ok (.goto (-1750), 3) := by decide +kernel
theorem dL_law_1850 : decode cL_law 1850 = .ok (.iload 13, 2) := by decide +kernel
theorem dL_law_1852 : decode cL_law 1852 = .ok (.ifCond .eq 32, 3) := by decide +kernel
theorem dL_law_1855 : decode cL_law 1855 = .ok (.aload_n 1, 1) := by decide +kernel
theorem dL_law_1856 : decode cL_law 1856 = .ok (.aload_n 2, 1) := by decide +kernel
theorem dL_law_1857 : decode cL_law 1857 = .ok (.aload_n 3, 1) := by decide +kernel
theorem dL_law_1858 : decode cL_law 1858 = .ok (.aload 4, 2) := by decide +kernel
theorem dL_law_1860 : decode cL_law 1860 = .ok (.aload 5, 2) := by decide +kernel
theorem dL_law_1862 : decode cL_law 1862 = .ok (.aload 6, 2) := by decide +kernel
theorem dL_law_1864 : decode cL_law 1864 = .ok (.aload 8, 2) := by decide +kernel
theorem dL_law_1866 : decode cL_law 1866 = .ok (.aload 9, 2) := by decide +kernel
theorem dL_law_1868 : decode cL_law 1868 = .ok (.aload 10, 2) := by decide +kernel
theorem dL_law_1870 : decode cL_law 1870 = .ok (.aload 11, 2) := by decide +kernel
theorem dL_law_1872 : decode cL_law 1872 = .ok (.bipush 13, 2) := by decide +kernel
theorem dL_law_1874 : decode cL_law 1874 = .ok (.invokestatic 180, 3) := by decide +kernel
theorem dL_law_1877 : decode cL_law 1877 = .ok (.ifCond .eq 7, 3) := by decide +kernel
theorem dL_law_1880 : decode cL_law 1880 = .ok (.iconst 1, 1) := by decide +kernel
theorem dL_law_1881 : decode cL_law 1881 = .ok (.goto 4, 3) := by decide +kernel
theorem dL_law_1884 : decode cL_law 1884 = .ok (.iconst 0, 1) := by decide +kernel
theorem dL_law_1885 : decode cL_law 1885 = .ok (.ireturn, 1) := by decide +kernel
theorem dL_isMoved_0 : decode cL_isMoved 0 = .ok (.iconst 0, 1) := by decide +kernel
theorem dL_isMoved_1 : decode cL_isMoved 1 = .ok (.istore 10, 2) := by decide +kernel
theorem dL_isMoved_3 : decode cL_isMoved 3 = .ok (.iconst 0, 1) := by decide +kernel
theorem dL_isMoved_4 : decode cL_isMoved 4 = .ok (.istore 11, 2) := by decide +kernel
theorem dL_isMoved_6 : decode cL_isMoved 6 = .ok (.iconst 0, 1) := by decide +kernel
theorem dL_isMoved_7 : decode cL_isMoved 7 = .ok (.istore 12, 2) := by decide +kernel
theorem dL_isMoved_9 : decode cL_isMoved 9 = .ok (.iload 12, 2) := by decide +kernel
theorem dL_isMoved_11 : decode cL_isMoved 11 = .ok (.iconst 4, 1) := by decide +kernel
theorem dL_isMoved_12 : decode cL_isMoved 12 = .ok (.if_icmp .ge 61, 3) := by decide +kernel
theorem dL_isMoved_15 : decode cL_isMoved 15 = .ok (.iload 10, 2) := by decide +kernel
theorem dL_isMoved_17 : decode cL_isMoved 17 = .ok (.aload_n 2, 1) := by decide +kernel
theorem dL_isMoved_18 : decode cL_isMoved 18 = .ok (.iconst 4, 1) := by decide +kernel
theorem dL_isMoved_19 : decode cL_isMoved 19 = .ok (.iload 9, 2) := by decide +kernel
theorem dL_isMoved_21 : decode cL_isMoved 21 = .ok (.imul, 1) := by decide +kernel
theorem dL_isMoved_22 : decode cL_isMoved 22 = .ok (.iload 12, 2) := by decide +kernel
theorem dL_isMoved_24 : decode cL_isMoved 24 = .ok (.iadd, 1) := by decide +kernel
theorem dL_isMoved_25 : decode cL_isMoved 25 = .ok (.iaload, 1) := by decide +kernel
theorem dL_isMoved_26 : decode cL_isMoved 26 = .ok (.ifCond .le 10, 3) := by decide +kernel
theorem dL_isMoved_29 : decode cL_isMoved 29 = .ok (.iconst 1, 1) := by decide +kernel
theorem dL_isMoved_30 : decode cL_isMoved 30 = .ok (.iload 12, 2) := by decide +kernel
theorem dL_isMoved_32 : decode cL_isMoved 32 = .ok (.ishl, 1) := by decide +kernel
theorem dL_isMoved_33 : decode cL_isMoved 33 = .ok (.goto 4, 3) := by decide +kernel
theorem dL_isMoved_36 : decode cL_isMoved 36 = .ok (.iconst 0, 1) := by decide +kernel
theorem dL_isMoved_37 : decode cL_isMoved 37 = .ok (.ior, 1) := by decide +kernel
theorem dL_isMoved_38 : decode cL_isMoved 38 = .ok (.istore 10, 2) := by decide +kernel
theorem dL_isMoved_40 : decode cL_isMoved 40 = .ok (.iload 11, 2) := by decide +kernel
theorem dL_isMoved_42 : decode cL_isMoved 42 = .ok (.aload_n 2, 1) := by decide +kernel
theorem dL_isMoved_43 : decode cL_isMoved 43 = .ok (.iconst 4, 1) := by decide +kernel
theorem dL_isMoved_44 : decode cL_isMoved 44 = .ok (.iconst 4, 1) := by decide +kernel
theorem dL_isMoved_45 : decode cL_isMoved 45 = .ok (.iload 9, 2) := by decide +kernel
theorem dL_isMoved_47 : decode cL_isMoved 47 = .ok (.imul, 1) := by decide +kernel
theorem dL_isMoved_48 : decode cL_isMoved 48 = .ok (.isub, 1) := by decide +kernel
theorem dL_isMoved_49 : decode cL_isMoved 49 = .ok (.iload 12, 2) := by decide +kernel
theorem dL_isMoved_51 : decode cL_isMoved 51 = .ok (.iadd, 1) := by decide +kernel
theorem dL_isMoved_52 : decode cL_isMoved 52 = .ok (.iaload, 1) := by decide +kernel
theorem dL_isMoved_53 : decode cL_isMoved 53 = .ok (.ifCond .le 10, 3) := by decide +kernel
theorem dL_isMoved_56 : decode cL_isMoved 56 = .ok (.iconst 1, 1) := by decide +kernel
theorem dL_isMoved_57 : decode cL_isMoved 57 = .ok (.iload 12, 2) := by decide +kernel
theorem dL_isMoved_59 : decode cL_isMoved 59 = .ok (.ishl, 1) := by decide +kernel
theorem dL_isMoved_60 : decode cL_isMoved 60 = .ok (.goto 4, 3) := by decide +kernel
theorem dL_isMoved_63 : decode cL_isMoved 63 = .ok (.iconst 0, 1) := by decide +kernel
theorem dL_isMoved_64 : decode cL_isMoved 64 = .ok (.ior, 1) := by decide +kernel
theorem dL_isMoved_65 : decode cL_isMoved 65 = .ok (.istore 11, 2) := by decide +kernel
theorem dL_isMoved_67 : decode cL_isMoved 67 = .ok (.iinc 12 1, 3) := by decide +kernel
theorem dL_isMoved_70 : decode cL_isMoved 70 = .ok (.goto (-61), 3) := by decide +kernel
theorem dL_isMoved_73 : decode cL_isMoved 73 = .ok (.iload 10, 2) := by decide +kernel
theorem dL_isMoved_75 : decode cL_isMoved 75 = .ok (.ifCond .le 12, 3) := by decide +kernel
theorem dL_isMoved_78 : decode cL_isMoved 78 = .ok (.iload 11, 2) := by decide +kernel
theorem dL_isMoved_80 : decode cL_isMoved 80 = .ok (.ifCond .ne 7, 3) := by decide +kernel
theorem dL_isMoved_83 : decode cL_isMoved 83 = .ok (.iconst 1, 1) := by decide +kernel
theorem dL_isMoved_84 : decode cL_isMoved 84 = .ok (.goto 4, 3) := by decide +kernel
theorem dL_isMoved_87 : decode cL_isMoved 87 = .ok (.iconst 0, 1) := by decide +kernel
theorem dL_isMoved_88 : decode cL_isMoved 88 = .ok (.istore 12, 2) := by decide +kernel
theorem dL_isMoved_90 : decode cL_isMoved 90 = .ok (.iconst 0, 1) := by decide +kernel
theorem dL_isMoved_91 : decode cL_isMoved 91 = .ok (.istore 13, 2) := by decide +kernel
theorem dL_isMoved_93 : decode cL_isMoved 93 = .ok (.iload 13, 2) := by decide +kernel
theorem dL_isMoved_95 : decode cL_isMoved 95 = .ok (.iconst 4, 1) := by decide +kernel
theorem dL_isMoved_96 : decode cL_isMoved 96 = .ok (.if_icmp .ge 74, 3) := by decide +kernel
theorem dL_isMoved_99 : decode cL_isMoved 99 = .ok (.iload 12, 2) := by decide +kernel
theorem dL_isMoved_101 : decode cL_isMoved 101 = .ok (.ifCond .eq 69, 3) := by decide +kernel
theorem dL_isMoved_104 : decode cL_isMoved 104 = .ok (.aload_n 1, 1) := by decide +kernel
theorem dL_isMoved_105 : decode cL_isMoved 105 = .ok (.aload 7, 2) := by decide +kernel
theorem dL_isMoved_107 : decode cL_isMoved 107 = .ok (.aload 8, 2) := by decide +kernel
theorem dL_isMoved_109 : decode cL_isMoved 109 = .ok (.iconst 4, 1) := by decide +kernel
theorem dL_isMoved_110 : decode cL_isMoved 110 = .ok (.iload 9, 2) := by decide +kernel
theorem dL_isMoved_112 : decode cL_isMoved 112 = .ok (.imul, 1) := by decide +kernel
theorem dL_isMoved_113 : decode cL_isMoved 113 = .ok (.iload 13, 2) := by decide +kernel
theorem dL_isMoved_115 : decode cL_isMoved 115 = .ok (.iadd, 1) := by decide +kernel
theorem dL_isMoved_116 : decode cL_isMoved 116 = .ok (.iconst 0, 1) := by decide +kernel
theorem dL_isMoved_117 : decode cL_isMoved 117 = .ok (.invokestatic 51, 3) := by decide +kernel
theorem dL_isMoved_120 : decode cL_isMoved 120 = .ok (.aload 7, 2) := by decide +kernel
theorem dL_isMoved_122 : decode cL_isMoved 122 = .ok (.bipush 7, 2) := by decide +kernel
theorem dL_isMoved_124 : decode cL_isMoved 124 = .ok (.iconst 4, 1) := by decide +kernel
theorem dL_isMoved_125 : decode cL_isMoved 125 = .ok (.iload 9, 2) := by decide +kernel
theorem dL_isMoved_127 : decode cL_isMoved 127 = .ok (.imul, 1) := by decide +kernel
theorem dL_isMoved_128 : decode cL_isMoved 128 = .ok (.iload 13, 2) := by decide +kernel
theorem dL_isMoved_130 : decode cL_isMoved 130 = .ok (.iadd, 1) := by decide +kernel
theorem dL_isMoved_131 : decode cL_isMoved 131 = .ok (.imul, 1) := by decide +kernel
theorem dL_isMoved_132 : decode cL_isMoved 132 = .ok (.iconst 0, 1) := by decide +kernel
theorem dL_isMoved_133 : decode cL_isMoved 133 = .ok (.iastore, 1) := by decide +kernel
theorem dL_isMoved_134 : decode cL_isMoved 134 = .ok (.aload_n 2, 1) := by decide +kernel
theorem dL_isMoved_135 : decode cL_isMoved 135 = .ok (.iconst 4, 1) := by decide +kernel
theorem dL_isMoved_136 : decode cL_isMoved 136 = .ok (.iconst 4, 1) := by decide +kernel
theorem dL_isMoved_137 : decode cL_isMoved 137 = .ok (.iload 9, 2) := by decide +kernel
theorem dL_isMoved_139 : decode cL_isMoved 139 = .ok (.imul, 1) := by decide +kernel
theorem dL_isMoved_140 : decode cL_isMoved 140 = .ok (.isub, 1) := by decide +kernel
theorem dL_isMoved_141 : decode cL_isMoved 141 = .ok (.iload 13, 2) := by decide +kernel
theorem dL_isMoved_143 : decode cL_isMoved 143 = .ok (.iadd, 1) := by decide +kernel
theorem dL_isMoved_144 : decode cL_isMoved 144 = .ok (.aload_n 2, 1) := by decide +kernel
theorem dL_isMoved_145 : decode cL_isMoved 145 = .ok (.iconst 4, 1) := by decide +kernel
theorem dL_isMoved_146 : decode cL_isMoved 146 = .ok (.iload 9, 2) := by decide +kernel
theorem dL_isMoved_148 : decode cL_isMoved 148 = .ok (.imul, 1) := by decide +kernel
theorem dL_isMoved_149 : decode cL_isMoved 149 = .ok (.iload 13, 2) := by decide +kernel
theorem dL_isMoved_151 : decode cL_isMoved 151 = .ok (.iadd, 1) := by decide +kernel
theorem dL_isMoved_152 : decode cL_isMoved 152 = .ok (.iaload, 1) := by decide +kernel
theorem dL_isMoved_153 : decode cL_isMoved 153 = .ok (.iastore, 1) := by decide +kernel
theorem dL_isMoved_154 : decode cL_isMoved 154 = .ok (.aload_n 2, 1) := by decide +kernel
theorem dL_isMoved_155 : decode cL_isMoved 155 = .ok (.iconst 4, 1) := by decide +kernel
theorem dL_isMoved_156 : decode cL_isMoved 156 = .ok (.iload 9, 2) := by decide +kernel
theorem dL_isMoved_158 : decode cL_isMoved 158 = .ok (.imul, 1) := by decide +kernel
theorem dL_isMoved_159 : decode cL_isMoved 159 = .ok (.iload 13, 2) := by decide +kernel
theorem dL_isMoved_161 : decode cL_isMoved 161 = .ok (.iadd, 1) := by decide +kernel
theorem dL_isMoved_162 : decode cL_isMoved 162 = .ok (.iconst 0, 1) := by decide +kernel
theorem dL_isMoved_163 : decode cL_isMoved 163 = .ok (.iastore, 1) := by decide +kernel
theorem dL_isMoved_164 : decode cL_isMoved 164 = .ok (.iinc 13 1, 3) := by decide +kernel
theorem dL_isMoved_167 : decode cL_isMoved 167 = .ok (.goto (-74), 3) := by decide +kernel
theorem dL_isMoved_170 : decode cL_isMoved 170 = .ok (.aload_n 1, 1) := by decide +kernel
theorem dL_isMoved_171 : decode cL_isMoved 171 = .ok (.aload_n 2, 1) := by decide +kernel
theorem dL_isMoved_172 : decode cL_isMoved 172 = .ok (.aload_n 3, 1) := by decide +kernel
theorem dL_isMoved_173 : decode cL_isMoved 173 = .ok (.aload 5, 2) := by decide +kernel
theorem dL_isMoved_175 : decode cL_isMoved 175 = .ok (.aload 6, 2) := by decide +kernel
theorem dL_isMoved_177 : decode cL_isMoved 177 = .ok (.invokestatic 231, 3) := by decide +kernel
theorem dL_isMoved_180 : decode cL_isMoved 180 = .ok (.iconst 0, 1) := by decide +kernel
theorem dL_isMoved_181 : decode cL_isMoved 181 = .ok (.istore 13, 2) := by decide +kernel
theorem dL_isMoved_183 : decode cL_isMoved 183 = .ok (.iconst 0, 1) := by decide +kernel
theorem dL_isMoved_184 : decode cL_isMoved 184 = .ok (.istore 14, 2) := by decide +kernel
theorem dL_isMoved_186 : decode cL_isMoved 186 = .ok (.iload 14, 2) := by decide +kernel
theorem dL_isMoved_188 : decode cL_isMoved 188 = .ok (.bipush 8, 2) := by decide +kernel
theorem dL_isMoved_190 : decode cL_isMoved 190 = .ok (.if_icmp .ge 215, 3) := by decide +kernel
theorem dL_isMoved_193 : decode cL_isMoved 193 = .ok (.iload 12, 2) := by decide +kernel
theorem dL_isMoved_195 : decode cL_isMoved 195 = .ok (.ifCond .eq 210, 3) := by decide +kernel
theorem dL_isMoved_198 : decode cL_isMoved 198 = .ok (.aload_n 1, 1) := by decide +kernel
theorem dL_isMoved_199 : decode cL_isMoved 199 = .ok (.aload_n 2, 1) := by decide +kernel
theorem dL_isMoved_200 : decode cL_isMoved 200 = .ok (.aload_n 3, 1) := by decide +kernel
theorem dL_isMoved_201 : decode cL_isMoved 201 = .ok (.iload 14, 2) := by decide +kernel
theorem dL_isMoved_203 : decode cL_isMoved 203 = .ok (.invokestatic 15, 3) := by decide +kernel
theorem dL_isMoved_206 : decode cL_isMoved 206 = .ok (.istore 15, 2) := by decide +kernel
theorem dL_isMoved_208 : decode cL_isMoved 208 = .ok (.lconst 1, 1) := by decide +kernel
theorem dL_isMoved_209 : decode cL_isMoved 209 = .ok (.lstore 16, 2) := by decide +kernel
theorem dL_isMoved_211 : decode cL_isMoved 211 = .ok (.iconst 0, 1) := by decide +kernel
theorem dL_isMoved_212 : decode cL_isMoved 212 = .ok (.istore 18, 2) := by decide +kernel
theorem dL_isMoved_214 : decode cL_isMoved 214 = .ok (.iload 15, 2) := by decide +kernel
theorem dL_isMoved_216 : decode cL_isMoved 216 = .ok (.ifCond .lt 137, 3) := by decide +kernel
theorem dL_isMoved_219 : decode cL_isMoved 219 = .ok (.iload 18, 2) := by decide +kernel
theorem dL_isMoved_221 : decode cL_isMoved 221 = .ok (.aload 4, 2) := by decide +kernel
theorem dL_isMoved_223 : decode cL_isMoved 223 = .ok (.iload 15, 2) := by decide +kernel
theorem dL_isMoved_225 : decode cL_isMoved 225 = .ok (.laload, 1) := by decide +kernel
theorem dL_isMoved_226 : decode cL_isMoved 226 = .ok (.invokestatic 7, 3) := by decide +kernel
theorem dL_isMoved_229 : decode cL_isMoved 229 = .ok (.if_icmp .ge 124, 3) := by decide +kernel
theorem dL_isMoved_232 : decode cL_isMoved 232 = .ok (.aload 4, 2) := by decide +kernel
theorem dL_isMoved_234 : decode cL_isMoved 234 = .ok (.iload 15, 2) := by decide +kernel
theorem dL_isMoved_236 : decode cL_isMoved 236 = .ok (.laload, 1) := by decide +kernel
theorem dL_isMoved_237 : decode cL_isMoved 237 = .ok (.iload 18, 2) := by decide +kernel
theorem dL_isMoved_239 : decode cL_isMoved 239 = .ok (.invokestatic 19, 3) := by decide +kernel
theorem dL_isMoved_242 : decode cL_isMoved 242 = .ok (.istore 19, 2) := by decide +kernel
theorem dL_isMoved_244 : decode cL_isMoved 244 = .ok (.iload 19, 2) := by decide +kernel
theorem dL_isMoved_246 : decode cL_isMoved 246 = .ok (.bipush 16, 2) := by decide +kernel
theorem dL_isMoved_248 : decode cL_isMoved 248 = .ok (.irem, 1) := by decide +kernel
theorem dL_isMoved_249 : decode cL_isMoved 249 = .ok (.iconst 1, 1) := by decide +kernel
theorem dL_isMoved_250 : decode cL_isMoved 250 = .ok (.if_icmp .eq 22, 3) := by decide +kernel
theorem dL_isMoved_253 : decode cL_isMoved 253 = .ok (.iload 19, 2) := by decide +kernel
theorem dL_isMoved_255 : decode cL_isMoved 255 = .ok (.bipush 16, 2) := by decide +kernel
theorem dL_isMoved_257 : decode cL_isMoved 257 = .ok (.irem, 1) := by decide +kernel
theorem dL_isMoved_258 : decode cL_isMoved 258 = .ok (.iconst 2, 1) := by decide +kernel
theorem dL_isMoved_259 : decode cL_isMoved 259 = .ok (.if_icmp .eq 13, 3) := by decide +kernel
theorem dL_isMoved_262 : decode cL_isMoved 262 = .ok (.iload 19, 2) := by decide +kernel
theorem dL_isMoved_264 : decode cL_isMoved 264 = .ok (.bipush 16, 2) := by decide +kernel
theorem dL_isMoved_266 : decode cL_isMoved 266 = .ok (.irem, 1) := by decide +kernel
theorem dL_isMoved_267 : decode cL_isMoved 267 = .ok (.bipush 10, 2) := by decide +kernel
theorem dL_isMoved_269 : decode cL_isMoved 269 = .ok (.if_icmp .ne 7, 3) := by decide +kernel
theorem dL_isMoved_272 : decode cL_isMoved 272 = .ok (.iconst 1, 1) := by decide +kernel
theorem dL_isMoved_273 : decode cL_isMoved 273 = .ok (.goto 4, 3) := by decide +kernel
theorem dL_isMoved_276 : decode cL_isMoved 276 = .ok (.iconst 0, 1) := by decide +kernel
theorem dL_isMoved_277 : decode cL_isMoved 277 = .ok (.istore 20, 2) := by decide +kernel
theorem dL_isMoved_279 : decode cL_isMoved 279 = .ok (.iload 20, 2) := by decide +kernel
theorem dL_isMoved_281 : decode cL_isMoved 281 = .ok (.ifCond .eq 33, 3) := by decide +kernel
theorem dL_isMoved_284 : decode cL_isMoved 284 = .ok (.iload 19, 2) := by decide +kernel
theorem dL_isMoved_286 : decode cL_isMoved 286 = .ok (.bipush 64, 2) := by decide +kernel
theorem dL_isMoved_288 : decode cL_isMoved 288 = .ok (.idiv, 1) := by decide +kernel
theorem dL_isMoved_289 : decode cL_isMoved 289 = .ok (.iload 9, 2) := by decide +kernel
theorem dL_isMoved_291 : decode cL_isMoved 291 = .ok (.if_icmp .ne 23, 3) := by decide +kernel
theorem dL_isMoved_294 : decode cL_isMoved 294 = .ok (.iload 10, 2) := by decide +kernel
theorem dL_isMoved_296 : decode cL_isMoved 296 = .ok (.iload 19, 2) := by decide +kernel
theorem dL_isMoved_298 : decode cL_isMoved 298 = .ok (.bipush 16, 2) := by decide +kernel
theorem dL_isMoved_300 : decode cL_isMoved 300 = .ok (.idiv, 1) := by decide +kernel
theorem dL_isMoved_301 : decode cL_isMoved 301 = .ok (.iconst 4, 1) := by decide +kernel
theorem dL_isMoved_302 : decode cL_isMoved 302 = .ok (.irem, 1) := by decide +kernel
theorem dL_isMoved_303 : decode cL_isMoved 303 = .ok (.ishr, 1) := by decide +kernel
theorem dL_isMoved_304 : decode cL_isMoved 304 = .ok (.iconst 1, 1) := by decide +kernel
theorem dL_isMoved_305 : decode cL_isMoved 305 = .ok (.iand, 1) := by decide +kernel
theorem dL_isMoved_306 : decode cL_isMoved 306 = .ok (.iconst 1, 1) := by decide +kernel
theorem dL_isMoved_307 : decode cL_isMoved 307 = .ok (.if_icmp .ne 7, 3) := by decide +kernel
theorem dL_isMoved_310 : decode cL_isMoved 310 = .ok (.iconst 1, 1) := by decide +kernel
theorem dL_isMoved_311 : decode cL_isMoved 311 = .ok (.goto 4, 3) := by decide +kernel
theorem dL_isMoved_314 : decode cL_isMoved 314 = .ok (.iconst 0, 1) := by decide +kernel
theorem dL_isMoved_315 : decode cL_isMoved 315 = .ok (.istore 21, 2) := by decide +kernel
theorem dL_isMoved_317 : decode cL_isMoved 317 = .ok (.lload 16, 2) := by decide +kernel
theorem dL_isMoved_319 : decode cL_isMoved 319 = .ok (.bipush 10, 2) := by decide +kernel
theorem dL_isMoved_321 : decode cL_isMoved 321 = .ok (.lshl, 1) := by decide +kernel
theorem dL_isMoved_322 : decode cL_isMoved 322 = .ok (.iload 19, 2) := by decide +kernel
theorem dL_isMoved_324 : decode cL_isMoved 324 = .ok (.iload 21, 2) := by decide +kernel
theorem dL_isMoved_326 : decode cL_isMoved 326 = .ok (.ifCond .eq 15, 3) := by decide +kernel
theorem dL_isMoved_329 : decode cL_isMoved 329 = .ok (.bipush 64, 2) := by decide +kernel
theorem dL_isMoved_331 : decode cL_isMoved 331 = .ok (.sipush 128, 3) := by decide +kernel
theorem dL_isMoved_334 : decode cL_isMoved 334 = .ok (.iload 9, 2) := by decide +kernel
theorem dL_isMoved_336 : decode cL_isMoved 336 = .ok (.imul, 1) := by decide +kernel
theorem dL_isMoved_337 : decode cL_isMoved 337 = .ok (.isub, 1) := by decide +kernel
theorem dL_isMoved_338 : decode cL_isMoved 338 = .ok (.goto 4, 3) := by decide +kernel
theorem dL_isMoved_341 : decode cL_isMoved 341 = .ok (.iconst 0, 1) := by decide +kernel
theorem dL_isMoved_342 : decode cL_isMoved 342 = .ok (.iadd, 1) := by decide +kernel
theorem dL_isMoved_343 : decode cL_isMoved 343 = .ok (.i2l, 1) := by decide +kernel
theorem dL_isMoved_344 : decode cL_isMoved 344 = .ok (.lor, 1) := by decide +kernel
theorem dL_isMoved_345 : decode cL_isMoved 345 = .ok (.lstore 16, 2) := by decide +kernel
theorem dL_isMoved_347 : decode cL_isMoved 347 = .ok (.iinc 18 1, 3) := by decide +kernel
theorem dL_isMoved_350 : decode cL_isMoved 350 = .ok (.goto (-136), 3) := by decide +kernel
theorem dL_isMoved_353 : decode cL_isMoved 353 = .ok (.iload 15, 2) := by decide +kernel
theorem dL_isMoved_355 : decode cL_isMoved 355 = .ok (.ifCond .lt 44, 3) := by decide +kernel
theorem dL_isMoved_358 : decode cL_isMoved 358 = .ok (.lload 16, 2) := by decide +kernel
theorem dL_isMoved_360 : decode cL_isMoved 360 = .ok (.aload 4, 2) := by decide +kernel
theorem dL_isMoved_362 : decode cL_isMoved 362 = .ok (.iload 15, 2) := by decide +kernel
theorem dL_isMoved_364 : decode cL_isMoved 364 = .ok (.laload, 1) := by decide +kernel
theorem dL_isMoved_365 : decode cL_isMoved 365 = .ok (.lcmp, 1) := by decide +kernel
theorem dL_isMoved_366 : decode cL_isMoved 366 = .ok (.ifCond .eq 33, 3) := by decide +kernel
theorem dL_isMoved_369 : decode cL_isMoved 369 = .ok (.aload_n 1, 1) := by decide +kernel
theorem dL_isMoved_370 : decode cL_isMoved 370 = .ok (.iconst 2, 1) := by decide +kernel
theorem dL_isMoved_371 : decode cL_isMoved 371 = .ok (.dup2, 1) := by decide +kernel
theorem dL_isMoved_372 : decode cL_isMoved 372 = .ok (.iaload, 1) := by decide +kernel
theorem dL_isMoved_373 : decode cL_isMoved 373 = .ok (.iconst 1, 1) := by decide +kernel
theorem dL_isMoved_374 : decode cL_isMoved 374 = .ok (.iadd, 1) := by decide +kernel
theorem dL_isMoved_375 : decode cL_isMoved 375 = .ok (.iastore, 1) := by decide +kernel
theorem dL_isMoved_376 : decode cL_isMoved 376 = .ok (.aload_n 1, 1) := by decide +kernel
theorem dL_isMoved_377 : decode cL_isMoved 377 = .ok (.aload_n 3, 1) := by decide +kernel
theorem dL_isMoved_378 : decode cL_isMoved 378 = .ok (.aload 4, 2) := by decide +kernel
theorem dL_isMoved_380 : decode cL_isMoved 380 = .ok (.aload_n 2, 1) := by decide +kernel
theorem dL_isMoved_381 : decode cL_isMoved 381 = .ok (.iload 14, 2) := by decide +kernel
theorem dL_isMoved_383 : decode cL_isMoved 383 = .ok (.iaload, 1) := by decide +kernel
theorem dL_isMoved_384 : decode cL_isMoved 384 = .ok (.iconst 1, 1) := by decide +kernel
theorem dL_isMoved_385 : decode cL_isMoved 385 = .ok (.isub, 1) := by decide +kernel
theorem dL_isMoved_386 : decode cL_isMoved 386 = .ok (.aload_n 1, 1) := by decide +kernel
theorem dL_isMoved_387 : decode cL_isMoved 387 = .ok (.iconst 2, 1) := by decide +kernel
theorem dL_isMoved_388 : decode cL_isMoved 388 = .ok (.iaload, 1) := by decide +kernel
theorem dL_isMoved_389 : decode cL_isMoved 389 = .ok (.lload 16, 2) := by decide +kernel
theorem dL_isMoved_391 : decode cL_isMoved 391 = .ok (.invokestatic 194, 3) := by decide +kernel
theorem dL_isMoved_394 : decode cL_isMoved 394 = .ok (.istore 18, 2) := by decide +kernel
theorem dL_isMoved_396 : decode cL_isMoved 396 = .ok (.iinc 13 1, 3) := by decide +kernel
theorem dL_isMoved_399 : decode cL_isMoved 399 = .ok (.iinc 14 1, 3) := by decide +kernel
theorem dL_isMoved_402 : decode cL_isMoved 402 = .ok (.goto (-216), 3) := by decide +kernel
theorem dL_isMoved_405 : decode cL_isMoved 405 = .ok (.aload_n 0, 1) := by decide +kernel
theorem dL_isMoved_406 : decode cL_isMoved 406 = .ok (.iconst 5, 1) := by decide +kernel
theorem dL_isMoved_407 : decode cL_isMoved 407 = .ok (.iload 9, 2) := by decide +kernel
theorem dL_isMoved_409 : decode cL_isMoved 409 = .ok (.iconst 1, 1) := by decide +kernel
theorem dL_isMoved_410 : decode cL_isMoved 410 = .ok (.iload 9, 2) := by decide +kernel
theorem dL_isMoved_412 : decode cL_isMoved 412 = .ok (.isub, 1) := by decide +kernel
theorem dL_isMoved_413 : decode cL_isMoved 413 = .ok (.iconst 0, 1) := by decide +kernel
theorem dL_isMoved_414 : decode cL_isMoved 414 = .ok (.invokestatic 132, 3) := by decide +kernel
theorem dL_isMoved_417 : decode cL_isMoved 417 = .ok (.iload 12, 2) := by decide +kernel
theorem dL_isMoved_419 : decode cL_isMoved 419 = .ok (.ifCond .eq 8, 3) := by decide +kernel
theorem dL_isMoved_422 : decode cL_isMoved 422 = .ok (.iload 13, 2) := by decide +kernel
theorem dL_isMoved_424 : decode cL_isMoved 424 = .ok (.goto 5, 3) := by decide +kernel
theorem dL_isMoved_427 : decode cL_isMoved 427 = .ok (.bipush (-13), 2) := by decide +kernel
theorem dL_isMoved_429 : decode cL_isMoved 429 = .ok (.if_icmp .ne 7, 3) := by decide +kernel
theorem dL_isMoved_432 : decode cL_isMoved 432 = .ok (.iconst 1, 1) := by decide +kernel
theorem dL_isMoved_433 : decode cL_isMoved 433 = .ok (.goto 4, 3) := by decide +kernel
theorem dL_isMoved_436 : decode cL_isMoved 436 = .ok (.iconst 0, 1) := by decide +kernel
theorem dL_isMoved_437 : decode cL_isMoved 437 = .ok (.ireturn, 1) := by decide +kernel
